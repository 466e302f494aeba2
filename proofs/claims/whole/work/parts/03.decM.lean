theorem dX8_init_0 : decode cX8_init 0 = .ok (.aload_n 0, 1) := by decide +kernel
theorem dX8_init_1 : decode cX8_init 1 = .ok (.invokespecial 1, 3) := by decide +kernel
theorem dX8_init_4 : decode cX8_init 4 = .ok (.aload_n 0, 1) := by decide +kernel
theorem dX8_init_5 : decode cX8_init 5 = .ok (.bipush 60, 2) := by decide +kernel
theorem dX8_init_7 : decode cX8_init 7 = .ok (.newarray .int, 2) := by decide +kernel
theorem dX8_init_9 : decode cX8_init 9 = .ok (.putfield 7, 3) := by decide +kernel
theorem dX8_init_12 : decode cX8_init 12 = .ok (.aload_n 0, 1) := by decide +kernel
theorem dX8_init_13 : decode cX8_init 13 = .ok (.bipush 60, 2) := by decide +kernel
theorem dX8_init_15 : decode cX8_init 15 = .ok (.newarray .int, 2) := by decide +kernel
theorem dX8_init_17 : decode cX8_init 17 = .ok (.putfield 13, 3) := by decide +kernel
theorem dX8_init_20 : decode cX8_init 20 = .ok (.aload_n 0, 1) := by decide +kernel
theorem dX8_init_21 : decode cX8_init 21 = .ok (.sipush 240, 3) := by decide +kernel
theorem dX8_init_24 : decode cX8_init 24 = .ok (.newarray .int, 2) := by decide +kernel
theorem dX8_init_26 : decode cX8_init 26 = .ok (.putfield 16, 3) := by decide +kernel
theorem dX8_init_29 : decode cX8_init 29 = .ok (.aload_n 0, 1) := by decide +kernel
theorem dX8_init_30 : decode cX8_init 30 = .ok (.bipush 60, 2) := by decide +kernel
theorem dX8_init_32 : decode cX8_init 32 = .ok (.newarray .int, 2) := by decide +kernel
theorem dX8_init_34 : decode cX8_init 34 = .ok (.putfield 19, 3) := by decide +kernel
theorem dX8_init_37 : decode cX8_init 37 = .ok (.aload_n 0, 1) := by decide +kernel
theorem dX8_init_38 : decode cX8_init 38 = .ok (.bipush 60, 2) := by decide +kernel
theorem dX8_init_40 : decode cX8_init 40 = .ok (.newarray .int, 2) := by decide +kernel
theorem dX8_init_42 : decode cX8_init 42 = .ok (.putfield 22, 3) := by decide +kernel
theorem dX8_init_45 : decode cX8_init 45 = .ok (.aload_n 0, 1) := by decide +kernel
theorem dX8_init_46 : decode cX8_init 46 = .ok (.sipush 6561, 3) := by decide +kernel
theorem dX8_init_49 : decode cX8_init 49 = .ok (.newarray .boolean, 2) := by decide +kernel
theorem dX8_init_51 : decode cX8_init 51 = .ok (.putfield 25, 3) := by decide +kernel
theorem dX8_init_54 : decode cX8_init 54 = .ok (.aload_n 0, 1) := by decide +kernel
theorem dX8_init_55 : decode cX8_init 55 = .ok (.sipush 6561, 3) := by decide +kernel
theorem dX8_init_58 : decode cX8_init 58 = .ok (.newarray .int, 2) := by decide +kernel
theorem dX8_init_60 : decode cX8_init 60 = .ok (.putfield 29, 3) := by decide +kernel
theorem dX8_init_63 : decode cX8_init 63 = .ok (.aload_n 0, 1) := by decide +kernel
theorem dX8_init_64 : decode cX8_init 64 = .ok (.sipush 6561, 3) := by decide +kernel
theorem dX8_init_67 : decode cX8_init 67 = .ok (.newarray .int, 2) := by decide +kernel
theorem dX8_init_69 : decode cX8_init 69 = .ok (.putfield 32, 3) := by decide +kernel
theorem dX8_init_72 : decode cX8_init 72 = .ok (.aload_n 0, 1) := by decide +kernel
theorem dX8_init_73 : decode cX8_init 73 = .ok (.sipush 6561, 3) := by decide +kernel
theorem dX8_init_76 : decode cX8_init 76 = .ok (.newarray .boolean, 2) := by decide +kernel
theorem dX8_init_78 : decode cX8_init 78 = .ok (.putfield 35, 3) := by decide +kernel
theorem dX8_init_81 : decode cX8_init 81 = .ok (.aload_n 0, 1) := by decide +kernel
theorem dX8_init_82 : decode cX8_init 82 = .ok (.sipush 4096, 3) := by decide +kernel
theorem dX8_init_85 : decode cX8_init 85 = .ok (.newarray .int, 2) := by decide +kernel
theorem dX8_init_87 : decode cX8_init 87 = .ok (.putfield 38, 3) := by decide +kernel
theorem dX8_init_90 : decode cX8_init 90 = .ok (.iconst 0, 1) := by decide +kernel
theorem dX8_init_91 : decode cX8_init 91 = .ok (.istore_n 1, 1) := by decide +kernel
theorem dX8_init_92 : decode cX8_init 92 = .ok (.iload_n 1, 1) := by decide +kernel
theorem dX8_init_93 : decode cX8_init 93 = .ok (.bipush 8, 2) := by decide +kernel
theorem dX8_init_95 : decode cX8_init 95 = .ok (.if_icmp .ge 18, 3) := by decide +kernel
theorem dX8_init_98 : decode cX8_init 98 = .ok (.aload_n 0, 1) := by decide +kernel
theorem dX8_init_99 : decode cX8_init 99 = .ok (.getfield 7, 3) := by decide +kernel
theorem dX8_init_102 : decode cX8_init 102 = .ok (.iload_n 1, 1) := by decide +kernel
theorem dX8_init_103 : decode cX8_init 103 = .ok (.iload_n 1, 1) := by decide +kernel
theorem dX8_init_104 : decode cX8_init 104 = .ok (.iconst 1, 1) := by decide +kernel
theorem dX8_init_105 : decode cX8_init 105 = .ok (.iadd, 1) := by decide +kernel
theorem dX8_init_106 : decode cX8_init 106 = .ok (.iastore, 1) := by decide +kernel
theorem dX8_init_107 : decode cX8_init 107 = .ok (.iinc 1 1, 3) := by decide +kernel
theorem dX8_init_110 : decode cX8_init 110 = .ok (.goto (-18), 3) := by decide +kernel
theorem dX8_init_113 : decode cX8_init 113 = .ok (.return_, 1) := by decide +kernel
theorem dX8_in_0 : decode cX8_in 0 = .ok (.iload_n 0, 1) := by decide +kernel
theorem dX8_in_1 : decode cX8_in 1 = .ok (.iload_n 1, 1) := by decide +kernel
theorem dX8_in_2 : decode cX8_in 2 = .ok (.if_icmp .lt 12, 3) := by decide +kernel
theorem dX8_in_5 : decode cX8_in 5 = .ok (.iload_n 0, 1) := by decide +kernel
theorem dX8_in_6 : decode cX8_in 6 = .ok (.iload_n 2, 1) := by decide +kernel
theorem dX8_in_7 : decode cX8_in 7 = .ok (.if_icmp .gt 7, 3) := by decide +kernel
theorem dX8_in_10 : decode cX8_in 10 = .ok (.iconst 1, 1) := by decide +kernel
theorem dX8_in_11 : decode cX8_in 11 = .ok (.goto 4, 3) := by decide +kernel
theorem dX8_in_14 : decode cX8_in 14 = .ok (.iconst 0, 1) := by decide +kernel
theorem dX8_in_15 : decode cX8_in 15 = .ok (.ireturn, 1) := by decide +kernel
theorem dX8_isMix_0 : decode cX8_isMix 0 = .ok (.iload_n 0, 1) := by decide +kernel
theorem dX8_isMix_1 : decode cX8_isMix 1 = .ok (.iconst 0, 1) := by decide +kernel
theorem dX8_isMix_2 : decode cX8_isMix 2 = .ok (.sipush 6560, 3) := by decide +kernel
theorem dX8_isMix_5 : decode cX8_isMix 5 = .ok (.invokestatic 41, 3) := by decide +kernel
theorem dX8_isMix_8 : decode cX8_isMix 8 = .ok (.ireturn, 1) := by decide +kernel
theorem dX8_putAside_0 : decode cX8_putAside 0 = .ok (.iconst 0, 1) := by decide +kernel
theorem dX8_putAside_1 : decode cX8_putAside 1 = .ok (.istore_n 1, 1) := by decide +kernel
theorem dX8_putAside_2 : decode cX8_putAside 2 = .ok (.iload_n 1, 1) := by decide +kernel
theorem dX8_putAside_3 : decode cX8_putAside 3 = .ok (.bipush 60, 2) := by decide +kernel
theorem dX8_putAside_5 : decode cX8_putAside 5 = .ok (.if_icmp .ge 21, 3) := by decide +kernel
theorem dX8_putAside_8 : decode cX8_putAside 8 = .ok (.aload_n 0, 1) := by decide +kernel
theorem dX8_putAside_9 : decode cX8_putAside 9 = .ok (.getfield 13, 3) := by decide +kernel
theorem dX8_putAside_12 : decode cX8_putAside 12 = .ok (.iload_n 1, 1) := by decide +kernel
theorem dX8_putAside_13 : decode cX8_putAside 13 = .ok (.aload_n 0, 1) := by decide +kernel
theorem dX8_putAside_14 : decode cX8_putAside 14 = .ok (.getfield 7, 3) := by decide +kernel
theorem dX8_putAside_17 : decode cX8_putAside 17 = .ok (.iload_n 1, 1) := by decide +kernel
theorem dX8_putAside_18 : decode cX8_putAside 18 = .ok (.iaload, 1) := by decide +kernel
theorem dX8_putAside_19 : decode cX8_putAside 19 = .ok (.iastore, 1) := by decide +kernel
theorem dX8_putAside_20 : decode cX8_putAside 20 = .ok (.iinc 1 1, 3) := by decide +kernel
theorem dX8_putAside_23 : decode cX8_putAside 23 = .ok (.goto (-21), 3) := by decide +kernel
theorem dX8_putAside_26 : decode cX8_putAside 26 = .ok (.return_, 1) := by decide +kernel
theorem dX8_act_0 : decode cX8_act 0 = .ok (.aload_n 0, 1) := by decide +kernel
theorem dX8_act_1 : decode cX8_act 1 = .ok (.iconst 0, 1) := by decide +kernel
theorem dX8_act_2 : decode cX8_act 2 = .ok (.putfield 45, 3) := by decide +kernel
theorem dX8_act_5 : decode cX8_act 5 = .ok (.iload_n 1, 1) := by decide +kernel
theorem dX8_act_6 : decode cX8_act 6 = .ok (.ifCond .ge 31, 3) := by decide +kernel
theorem dX8_act_9 : decode cX8_act 9 = .ok (.iconst 0, 1) := by decide +kernel
theorem dX8_act_10 : decode cX8_act 10 = .ok (.istore_n 2, 1) := by decide +kernel
theorem dX8_act_11 : decode cX8_act 11 = .ok (.iload_n 2, 1) := by decide +kernel
theorem dX8_act_12 : decode cX8_act 12 = .ok (.bipush 60, 2) := by decide +kernel
theorem dX8_act_14 : decode cX8_act 14 = .ok (.if_icmp .ge 21, 3) := by decide +kernel
theorem dX8_act_17 : decode cX8_act 17 = .ok (.aload_n 0, 1) := by decide +kernel
theorem dX8_act_18 : decode cX8_act 18 = .ok (.getfield 7, 3) := by decide +kernel
theorem dX8_act_21 : decode cX8_act 21 = .ok (.iload_n 2, 1) := by decide +kernel
theorem dX8_act_22 : decode cX8_act 22 = .ok (.aload_n 0, 1) := by decide +kernel
theorem dX8_act_23 : decode cX8_act 23 = .ok (.getfield 13, 3) := by decide +kernel
theorem dX8_act_26 : decode cX8_act 26 = .ok (.iload_n 2, 1) := by decide +kernel
theorem dX8_act_27 : decode cX8_act 27 = .ok (.iaload, 1) := by decide +kernel
theorem dX8_act_28 : decode cX8_act 28 = .ok (.iastore, 1) := by decide +kernel
theorem dX8_act_29 : decode cX8_act 29 = .ok (.iinc 2 1, 3) := by decide +kernel
theorem dX8_act_32 : decode cX8_act 32 = .ok (.goto (-21), 3) := by decide +kernel
theorem dX8_act_35 : decode cX8_act 35 = .ok (.iload_n 1, 1) := by decide +kernel
theorem dX8_act_36 : decode cX8_act 36 = .ok (.ireturn, 1) := by decide +kernel
theorem dX8_act_37 : decode cX8_act 37 = .ok (.aload_n 0, 1) := by decide +kernel
theorem dX8_act_38 : decode cX8_act 38 = .ok (.getfield 49, 3) := by decide +kernel
theorem dX8_act_41 : decode cX8_act 41 = .ok (.iconst 4, 1) := by decide +kernel
theorem dX8_act_42 : decode cX8_act 42 = .ok (.if_icmp .ne 43, 3) := by decide +kernel
theorem dX8_act_45 : decode cX8_act 45 = .ok (.iconst 0, 1) := by decide +kernel
theorem dX8_act_46 : decode cX8_act 46 = .ok (.istore_n 2, 1) := by decide +kernel
theorem dX8_act_47 : decode cX8_act 47 = .ok (.iload_n 2, 1) := by decide +kernel
theorem dX8_act_48 : decode cX8_act 48 = .ok (.sipush 180, 3) := by decide +kernel
theorem dX8_act_51 : decode cX8_act 51 = .ok (.if_icmp .ge 24, 3) := by decide +kernel
theorem dX8_act_54 : decode cX8_act 54 = .ok (.aload_n 0, 1) := by decide +kernel
theorem dX8_act_55 : decode cX8_act 55 = .ok (.getfield 16, 3) := by decide +kernel
theorem dX8_act_58 : decode cX8_act 58 = .ok (.iload_n 2, 1) := by decide +kernel
theorem dX8_act_59 : decode cX8_act 59 = .ok (.aload_n 0, 1) := by decide +kernel
theorem dX8_act_60 : decode cX8_act 60 = .ok (.getfield 16, 3) := by decide +kernel
theorem dX8_act_63 : decode cX8_act 63 = .ok (.bipush 60, 2) := by decide +kernel
theorem dX8_act_65 : decode cX8_act 65 = .ok (.iload_n 2, 1) := by decide +kernel
theorem dX8_act_66 : decode cX8_act 66 = .ok (.iadd, 1) := by decide +kernel
theorem dX8_act_67 : decode cX8_act 67 = .ok (.iaload, 1) := by decide +kernel
theorem dX8_act_68 : decode cX8_act 68 = .ok (.iastore, 1) := by decide +kernel
theorem dX8_act_69 : decode cX8_act 69 = .ok (.iinc 2 1, 3) := by decide +kernel
theorem dX8_act_72 : decode cX8_act 72 = .ok (.goto (-25), 3) := by decide +kernel
theorem dX8_act_75 : decode cX8_act 75 = .ok (.aload_n 0, 1) := by decide +kernel
theorem dX8_act_76 : decode cX8_act 76 = .ok (.dup, 1) := by decide +kernel
theorem dX8_act_77 : decode cX8_act 77 = .ok (.getfield 49, 3) := by decide +kernel
theorem dX8_act_80 : decode cX8_act 80 = .ok (.iconst 1, 1) := by decide +kernel
theorem dX8_act_81 : decode cX8_act 81 = .ok (.isub, 1) := by decide +kernel
theorem dX8_act_82 : decode cX8_act 82 = .ok (.putfield 49, 3) := by decide +kernel
theorem dX8_act_85 : decode cX8_act 85 = .ok (.iconst 0, 1) := by decide +kernel
theorem dX8_act_86 : decode cX8_act 86 = .ok (.istore_n 2, 1) := by decide +kernel
theorem dX8_act_87 : decode cX8_act 87 = .ok (.iload_n 2, 1) := by decide +kernel
theorem dX8_act_88 : decode cX8_act 88 = .ok (.bipush 60, 2) := by decide +kernel
theorem dX8_act_90 : decode cX8_act 90 = .ok (.if_icmp .ge 29, 3) := by decide +kernel
theorem dX8_act_93 : decode cX8_act 93 = .ok (.aload_n 0, 1) := by decide +kernel
theorem dX8_act_94 : decode cX8_act 94 = .ok (.getfield 16, 3) := by decide +kernel
theorem dX8_act_97 : decode cX8_act 97 = .ok (.bipush 60, 2) := by decide +kernel
theorem dX8_act_99 : decode cX8_act 99 = .ok (.aload_n 0, 1) := by decide +kernel
theorem dX8_act_100 : decode cX8_act 100 = .ok (.getfield 49, 3) := by decide +kernel
theorem dX8_act_103 : decode cX8_act 103 = .ok (.imul, 1) := by decide +kernel
theorem dX8_act_104 : decode cX8_act 104 = .ok (.iload_n 2, 1) := by decide +kernel
theorem dX8_act_105 : decode cX8_act 105 = .ok (.iadd, 1) := by decide +kernel
theorem dX8_act_106 : decode cX8_act 106 = .ok (.aload_n 0, 1) := by decide +kernel
theorem dX8_act_107 : decode cX8_act 107 = .ok (.getfield 13, 3) := by decide +kernel
theorem dX8_act_110 : decode cX8_act 110 = .ok (.iload_n 2, 1) := by decide +kernel
theorem dX8_act_111 : decode cX8_act 111 = .ok (.iaload, 1) := by decide +kernel
theorem dX8_act_112 : decode cX8_act 112 = .ok (.iastore, 1) := by decide +kernel
theorem dX8_act_113 : decode cX8_act 113 = .ok (.iinc 2 1, 3) := by decide +kernel
theorem dX8_act_116 : decode cX8_act 116 = .ok (.goto (-29), 3) := by decide +kernel
theorem dX8_act_119 : decode cX8_act 119 = .ok (.aload_n 0, 1) := by decide +kernel
theorem dX8_act_120 : decode cX8_act 120 = .ok (.dup, 1) := by decide +kernel
theorem dX8_act_121 : decode cX8_act 121 = .ok (.getfield 49, 3) := by decide +kernel
theorem dX8_act_124 : decode cX8_act 124 = .ok (.iconst 1, 1) := by decide +kernel
theorem dX8_act_125 : decode cX8_act 125 = .ok (.iadd, 1) := by decide +kernel
theorem dX8_act_126 : decode cX8_act 126 = .ok (.putfield 49, 3) := by decide +kernel
theorem dX8_act_129 : decode cX8_act 129 = .ok (.iload_n 1, 1) := by decide +kernel
theorem dX8_act_130 : decode cX8_act 130 = .ok (.ireturn, 1) := by decide +kernel
theorem dX8_mixed_0 : decode cX8_mixed 0 = .ok (.iconst 0, 1) := by decide +kernel
theorem dX8_mixed_1 : decode cX8_mixed 1 = .ok (.istore_n 2, 1) := by decide +kernel
theorem dX8_mixed_2 : decode cX8_mixed 2 = .ok (.iconst 1, 1) := by decide +kernel
theorem dX8_mixed_3 : decode cX8_mixed 3 = .ok (.istore_n 3, 1) := by decide +kernel
theorem dX8_mixed_4 : decode cX8_mixed 4 = .ok (.iload_n 0, 1) := by decide +kernel
theorem dX8_mixed_5 : decode cX8_mixed 5 = .ok (.istore 4, 2) := by decide +kernel
theorem dX8_mixed_7 : decode cX8_mixed 7 = .ok (.iload_n 1, 1) := by decide +kernel
theorem dX8_mixed_8 : decode cX8_mixed 8 = .ok (.istore 5, 2) := by decide +kernel
theorem dX8_mixed_10 : decode cX8_mixed 10 = .ok (.iconst 0, 1) := by decide +kernel
theorem dX8_mixed_11 : decode cX8_mixed 11 = .ok (.istore 6, 2) := by decide +kernel
theorem dX8_mixed_13 : decode cX8_mixed 13 = .ok (.iload 6, 2) := by decide +kernel
theorem dX8_mixed_15 : decode cX8_mixed 15 = .ok (.bipush 8, 2) := by decide +kernel
theorem dX8_mixed_17 : decode cX8_mixed 17 = .ok (.if_icmp .ge 41, 3) := by decide +kernel
theorem dX8_mixed_20 : decode cX8_mixed 20 = .ok (.iload_n 2, 1) := by decide +kernel
theorem dX8_mixed_21 : decode cX8_mixed 21 = .ok (.iload 4, 2) := by decide +kernel
theorem dX8_mixed_23 : decode cX8_mixed 23 = .ok (.iconst 3, 1) := by decide +kernel
theorem dX8_mixed_24 : decode cX8_mixed 24 = .ok (.irem, 1) := by decide +kernel
theorem dX8_mixed_25 : decode cX8_mixed 25 = .ok (.iload 5, 2) := by decide +kernel
theorem dX8_mixed_27 : decode cX8_mixed 27 = .ok (.iconst 3, 1) := by decide +kernel
theorem dX8_mixed_28 : decode cX8_mixed 28 = .ok (.irem, 1) := by decide +kernel
theorem dX8_mixed_29 : decode cX8_mixed 29 = .ok (.iadd, 1) := by decide +kernel
theorem dX8_mixed_30 : decode cX8_mixed 30 = .ok (.iconst 3, 1) := by decide +kernel
theorem dX8_mixed_31 : decode cX8_mixed 31 = .ok (.irem, 1) := by decide +kernel
theorem dX8_mixed_32 : decode cX8_mixed 32 = .ok (.iload_n 3, 1) := by decide +kernel
theorem dX8_mixed_33 : decode cX8_mixed 33 = .ok (.imul, 1) := by decide +kernel
theorem dX8_mixed_34 : decode cX8_mixed 34 = .ok (.iadd, 1) := by decide +kernel
theorem dX8_mixed_35 : decode cX8_mixed 35 = .ok (.istore_n 2, 1) := by decide +kernel
theorem dX8_mixed_36 : decode cX8_mixed 36 = .ok (.iload_n 3, 1) := by decide +kernel
theorem dX8_mixed_37 : decode cX8_mixed 37 = .ok (.iconst 3, 1) := by decide +kernel
theorem dX8_mixed_38 : decode cX8_mixed 38 = .ok (.imul, 1) := by decide +kernel
theorem dX8_mixed_39 : decode cX8_mixed 39 = .ok (.istore_n 3, 1) := by decide +kernel
theorem dX8_mixed_40 : decode cX8_mixed 40 = .ok (.iload 4, 2) := by decide +kernel
theorem dX8_mixed_42 : decode cX8_mixed 42 = .ok (.iconst 3, 1) := by decide +kernel
theorem dX8_mixed_43 : decode cX8_mixed 43 = .ok (.idiv, 1) := by decide +kernel
theorem dX8_mixed_44 : decode cX8_mixed 44 = .ok (.istore 4, 2) := by decide +kernel
theorem dX8_mixed_46 : decode cX8_mixed 46 = .ok (.iload 5, 2) := by decide +kernel
theorem dX8_mixed_48 : decode cX8_mixed 48 = .ok (.iconst 3, 1) := by decide +kernel
theorem dX8_mixed_49 : decode cX8_mixed 49 = .ok (.idiv, 1) := by decide +kernel
theorem dX8_mixed_50 : decode cX8_mixed 50 = .ok (.istore 5, 2) := by decide +kernel
theorem dX8_mixed_52 : decode cX8_mixed 52 = .ok (.iinc 6 1, 3) := by decide +kernel
theorem dX8_mixed_55 : decode cX8_mixed 55 = .ok (.goto (-42), 3) := by decide +kernel
theorem dX8_mixed_58 : decode cX8_mixed 58 = .ok (.iload_n 2, 1) := by decide +kernel
theorem dX8_mixed_59 : decode cX8_mixed 59 = .ok (.ireturn, 1) := by decide +kernel
theorem dX8_units_0 : decode cX8_units 0 = .ok (.iconst 0, 1) := by decide +kernel
theorem dX8_units_1 : decode cX8_units 1 = .ok (.istore_n 1, 1) := by decide +kernel
theorem dX8_units_2 : decode cX8_units 2 = .ok (.iload_n 0, 1) := by decide +kernel
theorem dX8_units_3 : decode cX8_units 3 = .ok (.istore_n 2, 1) := by decide +kernel
theorem dX8_units_4 : decode cX8_units 4 = .ok (.iload_n 2, 1) := by decide +kernel
theorem dX8_units_5 : decode cX8_units 5 = .ok (.ifCond .le 16, 3) := by decide +kernel
theorem dX8_units_8 : decode cX8_units 8 = .ok (.iload_n 1, 1) := by decide +kernel
theorem dX8_units_9 : decode cX8_units 9 = .ok (.iload_n 2, 1) := by decide +kernel
theorem dX8_units_10 : decode cX8_units 10 = .ok (.iconst 3, 1) := by decide +kernel
theorem dX8_units_11 : decode cX8_units 11 = .ok (.irem, 1) := by decide +kernel
theorem dX8_units_12 : decode cX8_units 12 = .ok (.iadd, 1) := by decide +kernel
theorem dX8_units_13 : decode cX8_units 13 = .ok (.istore_n 1, 1) := by decide +kernel
theorem dX8_units_14 : decode cX8_units 14 = .ok (.iload_n 2, 1) := by decide +kernel
theorem dX8_units_15 : decode cX8_units 15 = .ok (.iconst 3, 1) := by decide +kernel
theorem dX8_units_16 : decode cX8_units 16 = .ok (.idiv, 1) := by decide +kernel
theorem dX8_units_17 : decode cX8_units 17 = .ok (.istore_n 2, 1) := by decide +kernel
theorem dX8_units_18 : decode cX8_units 18 = .ok (.goto (-14), 3) := by decide +kernel
theorem dX8_units_21 : decode cX8_units 21 = .ok (.iload_n 1, 1) := by decide +kernel
theorem dX8_units_22 : decode cX8_units 22 = .ok (.ireturn, 1) := by decide +kernel
theorem dX8_priceOf_0 : decode cX8_priceOf 0 = .ok (.iconst 0, 1) := by decide +kernel
theorem dX8_priceOf_1 : decode cX8_priceOf 1 = .ok (.istore_n 2, 1) := by decide +kernel
theorem dX8_priceOf_2 : decode cX8_priceOf 2 = .ok (.iload_n 1, 1) := by decide +kernel
theorem dX8_priceOf_3 : decode cX8_priceOf 3 = .ok (.istore_n 3, 1) := by decide +kernel
theorem dX8_priceOf_4 : decode cX8_priceOf 4 = .ok (.iconst 0, 1) := by decide +kernel
theorem dX8_priceOf_5 : decode cX8_priceOf 5 = .ok (.istore 4, 2) := by decide +kernel
theorem dX8_priceOf_7 : decode cX8_priceOf 7 = .ok (.iload 4, 2) := by decide +kernel
theorem dX8_priceOf_9 : decode cX8_priceOf 9 = .ok (.bipush 8, 2) := by decide +kernel
theorem dX8_priceOf_11 : decode cX8_priceOf 11 = .ok (.if_icmp .ge 27, 3) := by decide +kernel
theorem dX8_priceOf_14 : decode cX8_priceOf 14 = .ok (.iload_n 2, 1) := by decide +kernel
theorem dX8_priceOf_15 : decode cX8_priceOf 15 = .ok (.iload_n 3, 1) := by decide +kernel
theorem dX8_priceOf_16 : decode cX8_priceOf 16 = .ok (.iconst 3, 1) := by decide +kernel
theorem dX8_priceOf_17 : decode cX8_priceOf 17 = .ok (.irem, 1) := by decide +kernel
theorem dX8_priceOf_18 : decode cX8_priceOf 18 = .ok (.aload_n 0, 1) := by decide +kernel
theorem dX8_priceOf_19 : decode cX8_priceOf 19 = .ok (.getfield 7, 3) := by decide +kernel
theorem dX8_priceOf_22 : decode cX8_priceOf 22 = .ok (.iload 4, 2) := by decide +kernel
theorem dX8_priceOf_24 : decode cX8_priceOf 24 = .ok (.iaload, 1) := by decide +kernel
theorem dX8_priceOf_25 : decode cX8_priceOf 25 = .ok (.imul, 1) := by decide +kernel
theorem dX8_priceOf_26 : decode cX8_priceOf 26 = .ok (.iadd, 1) := by decide +kernel
theorem dX8_priceOf_27 : decode cX8_priceOf 27 = .ok (.istore_n 2, 1) := by decide +kernel
theorem dX8_priceOf_28 : decode cX8_priceOf 28 = .ok (.iload_n 3, 1) := by decide +kernel
theorem dX8_priceOf_29 : decode cX8_priceOf 29 = .ok (.iconst 3, 1) := by decide +kernel
theorem dX8_priceOf_30 : decode cX8_priceOf 30 = .ok (.idiv, 1) := by decide +kernel
theorem dX8_priceOf_31 : decode cX8_priceOf 31 = .ok (.istore_n 3, 1) := by decide +kernel
theorem dX8_priceOf_32 : decode cX8_priceOf 32 = .ok (.iinc 4 1, 3) := by decide +kernel
theorem dX8_priceOf_35 : decode cX8_priceOf 35 = .ok (.goto (-28), 3) := by decide +kernel
theorem dX8_priceOf_38 : decode cX8_priceOf 38 = .ok (.iload_n 2, 1) := by decide +kernel
theorem dX8_priceOf_39 : decode cX8_priceOf 39 = .ok (.ireturn, 1) := by decide +kernel
theorem dX8_layBland_0 : decode cX8_layBland 0 = .ok (.iconst 0, 1) := by decide +kernel
theorem dX8_layBland_1 : decode cX8_layBland 1 = .ok (.istore_n 2, 1) := by decide +kernel
theorem dX8_layBland_2 : decode cX8_layBland 2 = .ok (.iload_n 2, 1) := by decide +kernel
theorem dX8_layBland_3 : decode cX8_layBland 3 = .ok (.sipush 6561, 3) := by decide +kernel
theorem dX8_layBland_6 : decode cX8_layBland 6 = .ok (.if_icmp .ge 24, 3) := by decide +kernel
theorem dX8_layBland_9 : decode cX8_layBland 9 = .ok (.aload_n 0, 1) := by decide +kernel
theorem dX8_layBland_10 : decode cX8_layBland 10 = .ok (.getfield 25, 3) := by decide +kernel
theorem dX8_layBland_13 : decode cX8_layBland 13 = .ok (.iload_n 2, 1) := by decide +kernel
theorem dX8_layBland_14 : decode cX8_layBland 14 = .ok (.iload_n 2, 1) := by decide +kernel
theorem dX8_layBland_15 : decode cX8_layBland 15 = .ok (.ifCond .ne 7, 3) := by decide +kernel
theorem dX8_layBland_18 : decode cX8_layBland 18 = .ok (.iconst 1, 1) := by decide +kernel
theorem dX8_layBland_19 : decode cX8_layBland 19 = .ok (.goto 4, 3) := by decide +kernel
theorem dX8_layBland_22 : decode cX8_layBland 22 = .ok (.iconst 0, 1) := by decide +kernel
theorem dX8_layBland_23 : decode cX8_layBland 23 = .ok (.bastore, 1) := by decide +kernel
theorem dX8_layBland_24 : decode cX8_layBland 24 = .ok (.iinc 2 1, 3) := by decide +kernel
theorem dX8_layBland_27 : decode cX8_layBland 27 = .ok (.goto (-25), 3) := by decide +kernel
theorem dX8_layBland_30 : decode cX8_layBland 30 = .ok (.iconst 0, 1) := by decide +kernel
theorem dX8_layBland_31 : decode cX8_layBland 31 = .ok (.istore_n 2, 1) := by decide +kernel
theorem dX8_layBland_32 : decode cX8_layBland 32 = .ok (.iconst 0, 1) := by decide +kernel
theorem dX8_layBland_33 : decode cX8_layBland 33 = .ok (.istore_n 3, 1) := by decide +kernel
theorem dX8_layBland_34 : decode cX8_layBland 34 = .ok (.iload_n 3, 1) := by decide +kernel
theorem dX8_layBland_35 : decode cX8_layBland 35 = .ok (.aload_n 0, 1) := by decide +kernel
theorem dX8_layBland_36 : decode cX8_layBland 36 = .ok (.getfield 7, 3) := by decide +kernel
theorem dX8_layBland_39 : decode cX8_layBland 39 = .ok (.bipush 34, 2) := by decide +kernel
theorem dX8_layBland_41 : decode cX8_layBland 41 = .ok (.iaload, 1) := by decide +kernel
theorem dX8_layBland_42 : decode cX8_layBland 42 = .ok (.if_icmp .ge 126, 3) := by decide +kernel
theorem dX8_layBland_45 : decode cX8_layBland 45 = .ok (.aload_n 0, 1) := by decide +kernel
theorem dX8_layBland_46 : decode cX8_layBland 46 = .ok (.getfield 7, 3) := by decide +kernel
theorem dX8_layBland_49 : decode cX8_layBland 49 = .ok (.bipush 35, 2) := by decide +kernel
theorem dX8_layBland_51 : decode cX8_layBland 51 = .ok (.iload_n 3, 1) := by decide +kernel
theorem dX8_layBland_52 : decode cX8_layBland 52 = .ok (.iadd, 1) := by decide +kernel
theorem dX8_layBland_53 : decode cX8_layBland 53 = .ok (.iaload, 1) := by decide +kernel
theorem dX8_layBland_54 : decode cX8_layBland 54 = .ok (.istore 4, 2) := by decide +kernel
theorem dX8_layBland_56 : decode cX8_layBland 56 = .ok (.iload_n 3, 1) := by decide +kernel
theorem dX8_layBland_57 : decode cX8_layBland 57 = .ok (.iload_n 1, 1) := by decide +kernel
theorem dX8_layBland_58 : decode cX8_layBland 58 = .ok (.if_icmp .eq 104, 3) := by decide +kernel
theorem dX8_layBland_61 : decode cX8_layBland 61 = .ok (.aload_n 0, 1) := by decide +kernel
theorem dX8_layBland_62 : decode cX8_layBland 62 = .ok (.getfield 25, 3) := by decide +kernel
theorem dX8_layBland_65 : decode cX8_layBland 65 = .ok (.iload 4, 2) := by decide +kernel
theorem dX8_layBland_67 : decode cX8_layBland 67 = .ok (.baload, 1) := by decide +kernel
theorem dX8_layBland_68 : decode cX8_layBland 68 = .ok (.ifCond .ne 94, 3) := by decide +kernel
theorem dX8_layBland_71 : decode cX8_layBland 71 = .ok (.iinc 2 1, 3) := by decide +kernel
theorem dX8_layBland_74 : decode cX8_layBland 74 = .ok (.iconst 0, 1) := by decide +kernel
theorem dX8_layBland_75 : decode cX8_layBland 75 = .ok (.istore 5, 2) := by decide +kernel
theorem dX8_layBland_77 : decode cX8_layBland 77 = .ok (.iload 5, 2) := by decide +kernel
theorem dX8_layBland_79 : decode cX8_layBland 79 = .ok (.sipush 6561, 3) := by decide +kernel
theorem dX8_layBland_82 : decode cX8_layBland 82 = .ok (.if_icmp .ge 23, 3) := by decide +kernel
theorem dX8_layBland_85 : decode cX8_layBland 85 = .ok (.aload_n 0, 1) := by decide +kernel
theorem dX8_layBland_86 : decode cX8_layBland 86 = .ok (.getfield 35, 3) := by decide +kernel
theorem dX8_layBland_89 : decode cX8_layBland 89 = .ok (.iload 5, 2) := by decide +kernel
theorem dX8_layBland_91 : decode cX8_layBland 91 = .ok (.aload_n 0, 1) := by decide +kernel
theorem dX8_layBland_92 : decode cX8_layBland 92 = .ok (.getfield 25, 3) := by decide +kernel
theorem dX8_layBland_95 : decode cX8_layBland 95 = .ok (.iload 5, 2) := by decide +kernel
theorem dX8_layBland_97 : decode cX8_layBland 97 = .ok (.baload, 1) := by decide +kernel
theorem dX8_layBland_98 : decode cX8_layBland 98 = .ok (.bastore, 1) := by decide +kernel
theorem dX8_layBland_99 : decode cX8_layBland 99 = .ok (.iinc 5 1, 3) := by decide +kernel
theorem dX8_layBland_102 : decode cX8_layBland 102 = .ok (.goto (-25), 3) := by decide +kernel
theorem dX8_layBland_105 : decode cX8_layBland 105 = .ok (.iconst 0, 1) := by decide +kernel
theorem dX8_layBland_106 : decode cX8_layBland 106 = .ok (.istore 5, 2) := by decide +kernel
theorem dX8_layBland_108 : decode cX8_layBland 108 = .ok (.iload 5, 2) := by decide +kernel
theorem dX8_layBland_110 : decode cX8_layBland 110 = .ok (.sipush 6561, 3) := by decide +kernel
theorem dX8_layBland_113 : decode cX8_layBland 113 = .ok (.if_icmp .ge 49, 3) := by decide +kernel
theorem dX8_layBland_116 : decode cX8_layBland 116 = .ok (.aload_n 0, 1) := by decide +kernel
theorem dX8_layBland_117 : decode cX8_layBland 117 = .ok (.getfield 35, 3) := by decide +kernel
theorem dX8_layBland_120 : decode cX8_layBland 120 = .ok (.iload 5, 2) := by decide +kernel
theorem dX8_layBland_122 : decode cX8_layBland 122 = .ok (.baload, 1) := by decide +kernel
theorem dX8_layBland_123 : decode cX8_layBland 123 = .ok (.ifCond .eq 33, 3) := by decide +kernel
theorem dX8_layBland_126 : decode cX8_layBland 126 = .ok (.iload 5, 2) := by decide +kernel
theorem dX8_layBland_128 : decode cX8_layBland 128 = .ok (.iload 4, 2) := by decide +kernel
theorem dX8_layBland_130 : decode cX8_layBland 130 = .ok (.invokestatic 53, 3) := by decide +kernel
theorem dX8_layBland_133 : decode cX8_layBland 133 = .ok (.istore 6, 2) := by decide +kernel
theorem dX8_layBland_135 : decode cX8_layBland 135 = .ok (.aload_n 0, 1) := by decide +kernel
theorem dX8_layBland_136 : decode cX8_layBland 136 = .ok (.getfield 25, 3) := by decide +kernel
theorem dX8_layBland_139 : decode cX8_layBland 139 = .ok (.iload 6, 2) := by decide +kernel
theorem dX8_layBland_141 : decode cX8_layBland 141 = .ok (.iconst 1, 1) := by decide +kernel
theorem dX8_layBland_142 : decode cX8_layBland 142 = .ok (.bastore, 1) := by decide +kernel
theorem dX8_layBland_143 : decode cX8_layBland 143 = .ok (.aload_n 0, 1) := by decide +kernel
theorem dX8_layBland_144 : decode cX8_layBland 144 = .ok (.getfield 25, 3) := by decide +kernel
theorem dX8_layBland_147 : decode cX8_layBland 147 = .ok (.iload 6, 2) := by decide +kernel
theorem dX8_layBland_149 : decode cX8_layBland 149 = .ok (.iload 4, 2) := by decide +kernel
theorem dX8_layBland_151 : decode cX8_layBland 151 = .ok (.invokestatic 53, 3) := by decide +kernel
theorem dX8_layBland_154 : decode cX8_layBland 154 = .ok (.iconst 1, 1) := by decide +kernel
theorem dX8_layBland_155 : decode cX8_layBland 155 = .ok (.bastore, 1) := by decide +kernel
theorem dX8_layBland_156 : decode cX8_layBland 156 = .ok (.iinc 5 1, 3) := by decide +kernel
theorem dX8_layBland_159 : decode cX8_layBland 159 = .ok (.goto (-51), 3) := by decide +kernel
theorem dX8_layBland_162 : decode cX8_layBland 162 = .ok (.iinc 3 1, 3) := by decide +kernel
theorem dX8_layBland_165 : decode cX8_layBland 165 = .ok (.goto (-131), 3) := by decide +kernel
theorem dX8_layBland_168 : decode cX8_layBland 168 = .ok (.iload_n 2, 1) := by decide +kernel
theorem dX8_layBland_169 : decode cX8_layBland 169 = .ok (.ireturn, 1) := by decide +kernel
theorem dX8_lay_0 : decode cX8_lay 0 = .ok (.aload_n 0, 1) := by decide +kernel
theorem dX8_lay_1 : decode cX8_lay 1 = .ok (.getfield 45, 3) := by decide +kernel
theorem dX8_lay_4 : decode cX8_lay 4 = .ok (.ifCond .eq 4, 3) := by decide +kernel
theorem dX8_lay_7 : decode cX8_lay 7 = .ok (.return_, 1) := by decide +kernel
theorem dX8_lay_8 : decode cX8_lay 8 = .ok (.aload_n 0, 1) := by decide +kernel
theorem dX8_lay_9 : decode cX8_lay 9 = .ok (.aload_n 0, 1) := by decide +kernel
theorem dX8_lay_10 : decode cX8_lay 10 = .ok (.bipush (-5), 2) := by decide +kernel
theorem dX8_lay_12 : decode cX8_lay 12 = .ok (.invokevirtual 57, 3) := by decide +kernel
theorem dX8_lay_15 : decode cX8_lay 15 = .ok (.putfield 61, 3) := by decide +kernel
theorem dX8_lay_18 : decode cX8_lay 18 = .ok (.iconst 0, 1) := by decide +kernel
theorem dX8_lay_19 : decode cX8_lay 19 = .ok (.istore_n 1, 1) := by decide +kernel
theorem dX8_lay_20 : decode cX8_lay 20 = .ok (.iconst 0, 1) := by decide +kernel
theorem dX8_lay_21 : decode cX8_lay 21 = .ok (.istore_n 2, 1) := by decide +kernel
theorem dX8_lay_22 : decode cX8_lay 22 = .ok (.iload_n 2, 1) := by decide +kernel
theorem dX8_lay_23 : decode cX8_lay 23 = .ok (.sipush 6561, 3) := by decide +kernel
theorem dX8_lay_26 : decode cX8_lay 26 = .ok (.if_icmp .ge 36, 3) := by decide +kernel
theorem dX8_lay_29 : decode cX8_lay 29 = .ok (.aload_n 0, 1) := by decide +kernel
theorem dX8_lay_30 : decode cX8_lay 30 = .ok (.getfield 29, 3) := by decide +kernel
theorem dX8_lay_33 : decode cX8_lay 33 = .ok (.iload_n 2, 1) := by decide +kernel
theorem dX8_lay_34 : decode cX8_lay 34 = .ok (.bipush (-5), 2) := by decide +kernel
theorem dX8_lay_36 : decode cX8_lay 36 = .ok (.iastore, 1) := by decide +kernel
theorem dX8_lay_37 : decode cX8_lay 37 = .ok (.aload_n 0, 1) := by decide +kernel
theorem dX8_lay_38 : decode cX8_lay 38 = .ok (.getfield 25, 3) := by decide +kernel
theorem dX8_lay_41 : decode cX8_lay 41 = .ok (.iload_n 2, 1) := by decide +kernel
theorem dX8_lay_42 : decode cX8_lay 42 = .ok (.baload, 1) := by decide +kernel
theorem dX8_lay_43 : decode cX8_lay 43 = .ok (.ifCond .eq 13, 3) := by decide +kernel
theorem dX8_lay_46 : decode cX8_lay 46 = .ok (.aload_n 0, 1) := by decide +kernel
theorem dX8_lay_47 : decode cX8_lay 47 = .ok (.getfield 32, 3) := by decide +kernel
theorem dX8_lay_50 : decode cX8_lay 50 = .ok (.iload_n 1, 1) := by decide +kernel
theorem dX8_lay_51 : decode cX8_lay 51 = .ok (.iload_n 2, 1) := by decide +kernel
theorem dX8_lay_52 : decode cX8_lay 52 = .ok (.iastore, 1) := by decide +kernel
theorem dX8_lay_53 : decode cX8_lay 53 = .ok (.iinc 1 1, 3) := by decide +kernel
theorem dX8_lay_56 : decode cX8_lay 56 = .ok (.iinc 2 1, 3) := by decide +kernel
theorem dX8_lay_59 : decode cX8_lay 59 = .ok (.goto (-37), 3) := by decide +kernel
theorem dX8_lay_62 : decode cX8_lay 62 = .ok (.iconst 0, 1) := by decide +kernel
theorem dX8_lay_63 : decode cX8_lay 63 = .ok (.istore_n 2, 1) := by decide +kernel
theorem dX8_lay_64 : decode cX8_lay 64 = .ok (.iload_n 2, 1) := by decide +kernel
theorem dX8_lay_65 : decode cX8_lay 65 = .ok (.sipush 6561, 3) := by decide +kernel
theorem dX8_lay_68 : decode cX8_lay 68 = .ok (.if_icmp .ge 62, 3) := by decide +kernel
theorem dX8_lay_71 : decode cX8_lay 71 = .ok (.aload_n 0, 1) := by decide +kernel
theorem dX8_lay_72 : decode cX8_lay 72 = .ok (.getfield 29, 3) := by decide +kernel
theorem dX8_lay_75 : decode cX8_lay 75 = .ok (.iload_n 2, 1) := by decide +kernel
theorem dX8_lay_76 : decode cX8_lay 76 = .ok (.iaload, 1) := by decide +kernel
theorem dX8_lay_77 : decode cX8_lay 77 = .ok (.bipush (-5), 2) := by decide +kernel
theorem dX8_lay_79 : decode cX8_lay 79 = .ok (.if_icmp .ne 7, 3) := by decide +kernel
theorem dX8_lay_82 : decode cX8_lay 82 = .ok (.iconst 1, 1) := by decide +kernel
theorem dX8_lay_83 : decode cX8_lay 83 = .ok (.goto 4, 3) := by decide +kernel
theorem dX8_lay_86 : decode cX8_lay 86 = .ok (.iconst 0, 1) := by decide +kernel
theorem dX8_lay_87 : decode cX8_lay 87 = .ok (.istore_n 3, 1) := by decide +kernel
theorem dX8_lay_88 : decode cX8_lay 88 = .ok (.iconst 0, 1) := by decide +kernel
theorem dX8_lay_89 : decode cX8_lay 89 = .ok (.istore 4, 2) := by decide +kernel
theorem dX8_lay_91 : decode cX8_lay 91 = .ok (.iload 4, 2) := by decide +kernel
theorem dX8_lay_93 : decode cX8_lay 93 = .ok (.iload_n 1, 1) := by decide +kernel
theorem dX8_lay_94 : decode cX8_lay 94 = .ok (.if_icmp .ge 30, 3) := by decide +kernel
theorem dX8_lay_97 : decode cX8_lay 97 = .ok (.iload_n 3, 1) := by decide +kernel
theorem dX8_lay_98 : decode cX8_lay 98 = .ok (.ifCond .eq 26, 3) := by decide +kernel
theorem dX8_lay_101 : decode cX8_lay 101 = .ok (.aload_n 0, 1) := by decide +kernel
theorem dX8_lay_102 : decode cX8_lay 102 = .ok (.getfield 29, 3) := by decide +kernel
theorem dX8_lay_105 : decode cX8_lay 105 = .ok (.iload_n 2, 1) := by decide +kernel
theorem dX8_lay_106 : decode cX8_lay 106 = .ok (.aload_n 0, 1) := by decide +kernel
theorem dX8_lay_107 : decode cX8_lay 107 = .ok (.getfield 32, 3) := by decide +kernel
theorem dX8_lay_110 : decode cX8_lay 110 = .ok (.iload 4, 2) := by decide +kernel
theorem dX8_lay_112 : decode cX8_lay 112 = .ok (.iaload, 1) := by decide +kernel
theorem dX8_lay_113 : decode cX8_lay 113 = .ok (.invokestatic 53, 3) := by decide +kernel
theorem dX8_lay_116 : decode cX8_lay 116 = .ok (.iload_n 2, 1) := by decide +kernel
theorem dX8_lay_117 : decode cX8_lay 117 = .ok (.iastore, 1) := by decide +kernel
theorem dX8_lay_118 : decode cX8_lay 118 = .ok (.iinc 4 1, 3) := by decide +kernel
theorem dX8_lay_121 : decode cX8_lay 121 = .ok (.goto (-30), 3) := by decide +kernel
theorem dX8_lay_124 : decode cX8_lay 124 = .ok (.iinc 2 1, 3) := by decide +kernel
theorem dX8_lay_127 : decode cX8_lay 127 = .ok (.goto (-63), 3) := by decide +kernel
theorem dX8_lay_130 : decode cX8_lay 130 = .ok (.aload_n 0, 1) := by decide +kernel
theorem dX8_lay_131 : decode cX8_lay 131 = .ok (.iconst 1, 1) := by decide +kernel
theorem dX8_lay_132 : decode cX8_lay 132 = .ok (.putfield 45, 3) := by decide +kernel
theorem dX8_lay_135 : decode cX8_lay 135 = .ok (.return_, 1) := by decide +kernel
theorem dX8_taste_0 : decode cX8_taste 0 = .ok (.aload_n 0, 1) := by decide +kernel
theorem dX8_taste_1 : decode cX8_taste 1 = .ok (.invokevirtual 64, 3) := by decide +kernel
theorem dX8_taste_4 : decode cX8_taste 4 = .ok (.aload_n 0, 1) := by decide +kernel
theorem dX8_taste_5 : decode cX8_taste 5 = .ok (.getfield 29, 3) := by decide +kernel
theorem dX8_taste_8 : decode cX8_taste 8 = .ok (.iload_n 1, 1) := by decide +kernel
theorem dX8_taste_9 : decode cX8_taste 9 = .ok (.iaload, 1) := by decide +kernel
theorem dX8_taste_10 : decode cX8_taste 10 = .ok (.ireturn, 1) := by decide +kernel
theorem dX8_strength_0 : decode cX8_strength 0 = .ok (.aload_n 0, 1) := by decide +kernel
theorem dX8_strength_1 : decode cX8_strength 1 = .ok (.invokevirtual 64, 3) := by decide +kernel
theorem dX8_strength_4 : decode cX8_strength 4 = .ok (.aload_n 0, 1) := by decide +kernel
theorem dX8_strength_5 : decode cX8_strength 5 = .ok (.getfield 61, 3) := by decide +kernel
theorem dX8_strength_8 : decode cX8_strength 8 = .ok (.ireturn, 1) := by decide +kernel
theorem dX8_power_0 : decode cX8_power 0 = .ok (.iconst 1, 1) := by decide +kernel
theorem dX8_power_1 : decode cX8_power 1 = .ok (.istore_n 1, 1) := by decide +kernel
theorem dX8_power_2 : decode cX8_power 2 = .ok (.iconst 0, 1) := by decide +kernel
theorem dX8_power_3 : decode cX8_power 3 = .ok (.istore_n 2, 1) := by decide +kernel
theorem dX8_power_4 : decode cX8_power 4 = .ok (.iload_n 2, 1) := by decide +kernel
theorem dX8_power_5 : decode cX8_power 5 = .ok (.iload_n 0, 1) := by decide +kernel
theorem dX8_power_6 : decode cX8_power 6 = .ok (.if_icmp .ge 13, 3) := by decide +kernel
theorem dX8_power_9 : decode cX8_power 9 = .ok (.iload_n 1, 1) := by decide +kernel
theorem dX8_power_10 : decode cX8_power 10 = .ok (.iconst 3, 1) := by decide +kernel
theorem dX8_power_11 : decode cX8_power 11 = .ok (.imul, 1) := by decide +kernel
theorem dX8_power_12 : decode cX8_power 12 = .ok (.istore_n 1, 1) := by decide +kernel
theorem dX8_power_13 : decode cX8_power 13 = .ok (.iinc 2 1, 3) := by decide +kernel
theorem dX8_power_16 : decode cX8_power 16 = .ok (.goto (-12), 3) := by decide +kernel
theorem dX8_power_19 : decode cX8_power 19 = .ok (.iload_n 1, 1) := by decide +kernel
theorem dX8_power_20 : decode cX8_power 20 = .ok (.ireturn, 1) := by decide +kernel
theorem dX8_cheapest_0 : decode cX8_cheapest 0 = .ok (.aload_n 0, 1) := by decide +kernel
theorem dX8_cheapest_1 : decode cX8_cheapest 1 = .ok (.iload_n 1, 1) := by decide +kernel
theorem dX8_cheapest_2 : decode cX8_cheapest 2 = .ok (.invokevirtual 67, 3) := by decide +kernel
theorem dX8_cheapest_5 : decode cX8_cheapest 5 = .ok (.istore_n 2, 1) := by decide +kernel
theorem dX8_cheapest_6 : decode cX8_cheapest 6 = .ok (.iload_n 2, 1) := by decide +kernel
theorem dX8_cheapest_7 : decode cX8_cheapest 7 = .ok (.istore_n 3, 1) := by decide +kernel
theorem dX8_cheapest_8 : decode cX8_cheapest 8 = .ok (.aload_n 0, 1) := by decide +kernel
theorem dX8_cheapest_9 : decode cX8_cheapest 9 = .ok (.iload_n 2, 1) := by decide +kernel
theorem dX8_cheapest_10 : decode cX8_cheapest 10 = .ok (.invokevirtual 70, 3) := by decide +kernel
theorem dX8_cheapest_13 : decode cX8_cheapest 13 = .ok (.istore 4, 2) := by decide +kernel
theorem dX8_cheapest_15 : decode cX8_cheapest 15 = .ok (.iload_n 2, 1) := by decide +kernel
theorem dX8_cheapest_16 : decode cX8_cheapest 16 = .ok (.iconst 1, 1) := by decide +kernel
theorem dX8_cheapest_17 : decode cX8_cheapest 17 = .ok (.iadd, 1) := by decide +kernel
theorem dX8_cheapest_18 : decode cX8_cheapest 18 = .ok (.istore 5, 2) := by decide +kernel
theorem dX8_cheapest_20 : decode cX8_cheapest 20 = .ok (.iload 5, 2) := by decide +kernel
theorem dX8_cheapest_22 : decode cX8_cheapest 22 = .ok (.sipush 6561, 3) := by decide +kernel
theorem dX8_cheapest_25 : decode cX8_cheapest 25 = .ok (.if_icmp .ge 42, 3) := by decide +kernel
theorem dX8_cheapest_28 : decode cX8_cheapest 28 = .ok (.aload_n 0, 1) := by decide +kernel
theorem dX8_cheapest_29 : decode cX8_cheapest 29 = .ok (.getfield 29, 3) := by decide +kernel
theorem dX8_cheapest_32 : decode cX8_cheapest 32 = .ok (.iload 5, 2) := by decide +kernel
theorem dX8_cheapest_34 : decode cX8_cheapest 34 = .ok (.iaload, 1) := by decide +kernel
theorem dX8_cheapest_35 : decode cX8_cheapest 35 = .ok (.iload_n 2, 1) := by decide +kernel
theorem dX8_cheapest_36 : decode cX8_cheapest 36 = .ok (.if_icmp .ne 25, 3) := by decide +kernel
theorem dX8_cheapest_39 : decode cX8_cheapest 39 = .ok (.aload_n 0, 1) := by decide +kernel
theorem dX8_cheapest_40 : decode cX8_cheapest 40 = .ok (.iload 5, 2) := by decide +kernel
theorem dX8_cheapest_42 : decode cX8_cheapest 42 = .ok (.invokevirtual 70, 3) := by decide +kernel
theorem dX8_cheapest_45 : decode cX8_cheapest 45 = .ok (.iload 4, 2) := by decide +kernel
theorem dX8_cheapest_47 : decode cX8_cheapest 47 = .ok (.if_icmp .ge 14, 3) := by decide +kernel
theorem dX8_cheapest_50 : decode cX8_cheapest 50 = .ok (.iload 5, 2) := by decide +kernel
theorem dX8_cheapest_52 : decode cX8_cheapest 52 = .ok (.istore_n 3, 1) := by decide +kernel
theorem dX8_cheapest_53 : decode cX8_cheapest 53 = .ok (.aload_n 0, 1) := by decide +kernel
theorem dX8_cheapest_54 : decode cX8_cheapest 54 = .ok (.iload 5, 2) := by decide +kernel
theorem dX8_cheapest_56 : decode cX8_cheapest 56 = .ok (.invokevirtual 70, 3) := by decide +kernel
theorem dX8_cheapest_59 : decode cX8_cheapest 59 = .ok (.istore 4, 2) := by decide +kernel
theorem dX8_cheapest_61 : decode cX8_cheapest 61 = .ok (.iinc 5 1, 3) := by decide +kernel
theorem dX8_cheapest_64 : decode cX8_cheapest 64 = .ok (.goto (-44), 3) := by decide +kernel
theorem dX8_cheapest_67 : decode cX8_cheapest 67 = .ok (.iload_n 3, 1) := by decide +kernel
theorem dX8_cheapest_68 : decode cX8_cheapest 68 = .ok (.ireturn, 1) := by decide +kernel
theorem dX8_mixIn_0 : decode cX8_mixIn 0 = .ok (.aload_n 0, 1) := by decide +kernel
theorem dX8_mixIn_1 : decode cX8_mixIn 1 = .ok (.getfield 7, 3) := by decide +kernel
theorem dX8_mixIn_4 : decode cX8_mixIn 4 = .ok (.bipush 9, 2) := by decide +kernel
theorem dX8_mixIn_6 : decode cX8_mixIn 6 = .ok (.iconst 2, 1) := by decide +kernel
theorem dX8_mixIn_7 : decode cX8_mixIn 7 = .ok (.iload_n 1, 1) := by decide +kernel
theorem dX8_mixIn_8 : decode cX8_mixIn 8 = .ok (.imul, 1) := by decide +kernel
theorem dX8_mixIn_9 : decode cX8_mixIn 9 = .ok (.iadd, 1) := by decide +kernel
theorem dX8_mixIn_10 : decode cX8_mixIn 10 = .ok (.iconst 1, 1) := by decide +kernel
theorem dX8_mixIn_11 : decode cX8_mixIn 11 = .ok (.iadd, 1) := by decide +kernel
theorem dX8_mixIn_12 : decode cX8_mixIn 12 = .ok (.iaload, 1) := by decide +kernel
theorem dX8_mixIn_13 : decode cX8_mixIn 13 = .ok (.ireturn, 1) := by decide +kernel
theorem dX8_numberOf_0 : decode cX8_numberOf 0 = .ok (.aload_n 0, 1) := by decide +kernel
theorem dX8_numberOf_1 : decode cX8_numberOf 1 = .ok (.getfield 7, 3) := by decide +kernel
theorem dX8_numberOf_4 : decode cX8_numberOf 4 = .ok (.bipush 9, 2) := by decide +kernel
theorem dX8_numberOf_6 : decode cX8_numberOf 6 = .ok (.iconst 2, 1) := by decide +kernel
theorem dX8_numberOf_7 : decode cX8_numberOf 7 = .ok (.iload_n 1, 1) := by decide +kernel
theorem dX8_numberOf_8 : decode cX8_numberOf 8 = .ok (.imul, 1) := by decide +kernel
theorem dX8_numberOf_9 : decode cX8_numberOf 9 = .ok (.iadd, 1) := by decide +kernel
theorem dX8_numberOf_10 : decode cX8_numberOf 10 = .ok (.iaload, 1) := by decide +kernel
theorem dX8_numberOf_11 : decode cX8_numberOf 11 = .ok (.ireturn, 1) := by decide +kernel
theorem dX8_find_0 : decode cX8_find 0 = .ok (.iconst 0, 1) := by decide +kernel
theorem dX8_find_1 : decode cX8_find 1 = .ok (.istore_n 2, 1) := by decide +kernel
theorem dX8_find_2 : decode cX8_find 2 = .ok (.iload_n 2, 1) := by decide +kernel
theorem dX8_find_3 : decode cX8_find 3 = .ok (.aload_n 0, 1) := by decide +kernel
theorem dX8_find_4 : decode cX8_find 4 = .ok (.getfield 7, 3) := by decide +kernel
theorem dX8_find_7 : decode cX8_find 7 = .ok (.bipush 8, 2) := by decide +kernel
theorem dX8_find_9 : decode cX8_find 9 = .ok (.iaload, 1) := by decide +kernel
theorem dX8_find_10 : decode cX8_find 10 = .ok (.if_icmp .ge 20, 3) := by decide +kernel
theorem dX8_find_13 : decode cX8_find 13 = .ok (.aload_n 0, 1) := by decide +kernel
theorem dX8_find_14 : decode cX8_find 14 = .ok (.iload_n 2, 1) := by decide +kernel
theorem dX8_find_15 : decode cX8_find 15 = .ok (.invokevirtual 73, 3) := by decide +kernel
theorem dX8_find_18 : decode cX8_find 18 = .ok (.iload_n 1, 1) := by decide +kernel
theorem dX8_find_19 : decode cX8_find 19 = .ok (.if_icmp .ne 5, 3) := by decide +kernel
theorem dX8_find_22 : decode cX8_find 22 = .ok (.iload_n 2, 1) := by decide +kernel
theorem dX8_find_23 : decode cX8_find 23 = .ok (.ireturn, 1) := by decide +kernel
theorem dX8_find_24 : decode cX8_find 24 = .ok (.iinc 2 1, 3) := by decide +kernel
theorem dX8_find_27 : decode cX8_find 27 = .ok (.goto (-25), 3) := by decide +kernel
theorem dX8_find_30 : decode cX8_find 30 = .ok (.bipush (-5), 2) := by decide +kernel
theorem dX8_find_32 : decode cX8_find 32 = .ok (.ireturn, 1) := by decide +kernel
theorem dX8_dropJar_0 : decode cX8_dropJar 0 = .ok (.aload_n 0, 1) := by decide +kernel
theorem dX8_dropJar_1 : decode cX8_dropJar 1 = .ok (.getfield 7, 3) := by decide +kernel
theorem dX8_dropJar_4 : decode cX8_dropJar 4 = .ok (.bipush 8, 2) := by decide +kernel
theorem dX8_dropJar_6 : decode cX8_dropJar 6 = .ok (.dup2, 1) := by decide +kernel
theorem dX8_dropJar_7 : decode cX8_dropJar 7 = .ok (.iaload, 1) := by decide +kernel
theorem dX8_dropJar_8 : decode cX8_dropJar 8 = .ok (.iconst 1, 1) := by decide +kernel
theorem dX8_dropJar_9 : decode cX8_dropJar 9 = .ok (.isub, 1) := by decide +kernel
theorem dX8_dropJar_10 : decode cX8_dropJar 10 = .ok (.iastore, 1) := by decide +kernel
theorem dX8_dropJar_11 : decode cX8_dropJar 11 = .ok (.bipush 9, 2) := by decide +kernel
theorem dX8_dropJar_13 : decode cX8_dropJar 13 = .ok (.iconst 2, 1) := by decide +kernel
theorem dX8_dropJar_14 : decode cX8_dropJar 14 = .ok (.iload_n 1, 1) := by decide +kernel
theorem dX8_dropJar_15 : decode cX8_dropJar 15 = .ok (.imul, 1) := by decide +kernel
theorem dX8_dropJar_16 : decode cX8_dropJar 16 = .ok (.iadd, 1) := by decide +kernel
theorem dX8_dropJar_17 : decode cX8_dropJar 17 = .ok (.istore_n 2, 1) := by decide +kernel
theorem dX8_dropJar_18 : decode cX8_dropJar 18 = .ok (.iload_n 2, 1) := by decide +kernel
theorem dX8_dropJar_19 : decode cX8_dropJar 19 = .ok (.bipush 9, 2) := by decide +kernel
theorem dX8_dropJar_21 : decode cX8_dropJar 21 = .ok (.iconst 2, 1) := by decide +kernel
theorem dX8_dropJar_22 : decode cX8_dropJar 22 = .ok (.aload_n 0, 1) := by decide +kernel
theorem dX8_dropJar_23 : decode cX8_dropJar 23 = .ok (.getfield 7, 3) := by decide +kernel
theorem dX8_dropJar_26 : decode cX8_dropJar 26 = .ok (.bipush 8, 2) := by decide +kernel
theorem dX8_dropJar_28 : decode cX8_dropJar 28 = .ok (.iaload, 1) := by decide +kernel
theorem dX8_dropJar_29 : decode cX8_dropJar 29 = .ok (.imul, 1) := by decide +kernel
theorem dX8_dropJar_30 : decode cX8_dropJar 30 = .ok (.iadd, 1) := by decide +kernel
theorem dX8_dropJar_31 : decode cX8_dropJar 31 = .ok (.if_icmp .ge 23, 3) := by decide +kernel
theorem dX8_dropJar_34 : decode cX8_dropJar 34 = .ok (.aload_n 0, 1) := by decide +kernel
theorem dX8_dropJar_35 : decode cX8_dropJar 35 = .ok (.getfield 7, 3) := by decide +kernel
theorem dX8_dropJar_38 : decode cX8_dropJar 38 = .ok (.iload_n 2, 1) := by decide +kernel
theorem dX8_dropJar_39 : decode cX8_dropJar 39 = .ok (.aload_n 0, 1) := by decide +kernel
theorem dX8_dropJar_40 : decode cX8_dropJar 40 = .ok (.getfield 7, 3) := by decide +kernel
theorem dX8_dropJar_43 : decode cX8_dropJar 43 = .ok (.iload_n 2, 1) := by decide +kernel
theorem dX8_dropJar_44 : decode cX8_dropJar 44 = .ok (.iconst 2, 1) := by decide +kernel
theorem dX8_dropJar_45 : decode cX8_dropJar 45 = .ok (.iadd, 1) := by decide +kernel
theorem dX8_dropJar_46 : decode cX8_dropJar 46 = .ok (.iaload, 1) := by decide +kernel
theorem dX8_dropJar_47 : decode cX8_dropJar 47 = .ok (.iastore, 1) := by decide +kernel
theorem dX8_dropJar_48 : decode cX8_dropJar 48 = .ok (.iinc 2 1, 3) := by decide +kernel
theorem dX8_dropJar_51 : decode cX8_dropJar 51 = .ok (.goto (-33), 3) := by decide +kernel
theorem dX8_dropJar_54 : decode cX8_dropJar 54 = .ok (.aload_n 0, 1) := by decide +kernel
theorem dX8_dropJar_55 : decode cX8_dropJar 55 = .ok (.getfield 7, 3) := by decide +kernel
theorem dX8_dropJar_58 : decode cX8_dropJar 58 = .ok (.bipush 9, 2) := by decide +kernel
theorem dX8_dropJar_60 : decode cX8_dropJar 60 = .ok (.iconst 2, 1) := by decide +kernel
theorem dX8_dropJar_61 : decode cX8_dropJar 61 = .ok (.aload_n 0, 1) := by decide +kernel
theorem dX8_dropJar_62 : decode cX8_dropJar 62 = .ok (.getfield 7, 3) := by decide +kernel
theorem dX8_dropJar_65 : decode cX8_dropJar 65 = .ok (.bipush 8, 2) := by decide +kernel
theorem dX8_dropJar_67 : decode cX8_dropJar 67 = .ok (.iaload, 1) := by decide +kernel
theorem dX8_dropJar_68 : decode cX8_dropJar 68 = .ok (.imul, 1) := by decide +kernel
theorem dX8_dropJar_69 : decode cX8_dropJar 69 = .ok (.iadd, 1) := by decide +kernel
theorem dX8_dropJar_70 : decode cX8_dropJar 70 = .ok (.iconst 0, 1) := by decide +kernel
theorem dX8_dropJar_71 : decode cX8_dropJar 71 = .ok (.iastore, 1) := by decide +kernel
theorem dX8_dropJar_72 : decode cX8_dropJar 72 = .ok (.aload_n 0, 1) := by decide +kernel
theorem dX8_dropJar_73 : decode cX8_dropJar 73 = .ok (.getfield 7, 3) := by decide +kernel
theorem dX8_dropJar_76 : decode cX8_dropJar 76 = .ok (.bipush 9, 2) := by decide +kernel
theorem dX8_dropJar_78 : decode cX8_dropJar 78 = .ok (.iconst 2, 1) := by decide +kernel
theorem dX8_dropJar_79 : decode cX8_dropJar 79 = .ok (.aload_n 0, 1) := by decide +kernel
theorem dX8_dropJar_80 : decode cX8_dropJar 80 = .ok (.getfield 7, 3) := by decide +kernel
theorem dX8_dropJar_83 : decode cX8_dropJar 83 = .ok (.bipush 8, 2) := by decide +kernel
theorem dX8_dropJar_85 : decode cX8_dropJar 85 = .ok (.iaload, 1) := by decide +kernel
theorem dX8_dropJar_86 : decode cX8_dropJar 86 = .ok (.imul, 1) := by decide +kernel
theorem dX8_dropJar_87 : decode cX8_dropJar 87 = .ok (.iadd, 1) := by decide +kernel
theorem dX8_dropJar_88 : decode cX8_dropJar 88 = .ok (.iconst 1, 1) := by decide +kernel
theorem dX8_dropJar_89 : decode cX8_dropJar 89 = .ok (.iadd, 1) := by decide +kernel
theorem dX8_dropJar_90 : decode cX8_dropJar 90 = .ok (.iconst 0, 1) := by decide +kernel
theorem dX8_dropJar_91 : decode cX8_dropJar 91 = .ok (.iastore, 1) := by decide +kernel
theorem dX8_dropJar_92 : decode cX8_dropJar 92 = .ok (.return_, 1) := by decide +kernel
theorem dX8_jarsLike_0 : decode cX8_jarsLike 0 = .ok (.iconst 0, 1) := by decide +kernel
theorem dX8_jarsLike_1 : decode cX8_jarsLike 1 = .ok (.istore_n 2, 1) := by decide +kernel
theorem dX8_jarsLike_2 : decode cX8_jarsLike 2 = .ok (.iconst 0, 1) := by decide +kernel
theorem dX8_jarsLike_3 : decode cX8_jarsLike 3 = .ok (.istore_n 3, 1) := by decide +kernel
theorem dX8_jarsLike_4 : decode cX8_jarsLike 4 = .ok (.iload_n 3, 1) := by decide +kernel
theorem dX8_jarsLike_5 : decode cX8_jarsLike 5 = .ok (.aload_n 0, 1) := by decide +kernel
theorem dX8_jarsLike_6 : decode cX8_jarsLike 6 = .ok (.getfield 7, 3) := by decide +kernel
theorem dX8_jarsLike_9 : decode cX8_jarsLike 9 = .ok (.bipush 8, 2) := by decide +kernel
theorem dX8_jarsLike_11 : decode cX8_jarsLike 11 = .ok (.iaload, 1) := by decide +kernel
theorem dX8_jarsLike_12 : decode cX8_jarsLike 12 = .ok (.if_icmp .ge 34, 3) := by decide +kernel
theorem dX8_jarsLike_15 : decode cX8_jarsLike 15 = .ok (.iload_n 2, 1) := by decide +kernel
theorem dX8_jarsLike_16 : decode cX8_jarsLike 16 = .ok (.aload_n 0, 1) := by decide +kernel
theorem dX8_jarsLike_17 : decode cX8_jarsLike 17 = .ok (.aload_n 0, 1) := by decide +kernel
theorem dX8_jarsLike_18 : decode cX8_jarsLike 18 = .ok (.iload_n 3, 1) := by decide +kernel
theorem dX8_jarsLike_19 : decode cX8_jarsLike 19 = .ok (.invokevirtual 76, 3) := by decide +kernel
theorem dX8_jarsLike_22 : decode cX8_jarsLike 22 = .ok (.invokevirtual 67, 3) := by decide +kernel
theorem dX8_jarsLike_25 : decode cX8_jarsLike 25 = .ok (.aload_n 0, 1) := by decide +kernel
theorem dX8_jarsLike_26 : decode cX8_jarsLike 26 = .ok (.iload_n 1, 1) := by decide +kernel
theorem dX8_jarsLike_27 : decode cX8_jarsLike 27 = .ok (.invokevirtual 67, 3) := by decide +kernel
theorem dX8_jarsLike_30 : decode cX8_jarsLike 30 = .ok (.if_icmp .ne 7, 3) := by decide +kernel
theorem dX8_jarsLike_33 : decode cX8_jarsLike 33 = .ok (.iconst 1, 1) := by decide +kernel
theorem dX8_jarsLike_34 : decode cX8_jarsLike 34 = .ok (.goto 4, 3) := by decide +kernel
theorem dX8_jarsLike_37 : decode cX8_jarsLike 37 = .ok (.iconst 0, 1) := by decide +kernel
theorem dX8_jarsLike_38 : decode cX8_jarsLike 38 = .ok (.iadd, 1) := by decide +kernel
theorem dX8_jarsLike_39 : decode cX8_jarsLike 39 = .ok (.istore_n 2, 1) := by decide +kernel
theorem dX8_jarsLike_40 : decode cX8_jarsLike 40 = .ok (.iinc 3 1, 3) := by decide +kernel
theorem dX8_jarsLike_43 : decode cX8_jarsLike 43 = .ok (.goto (-39), 3) := by decide +kernel
theorem dX8_jarsLike_46 : decode cX8_jarsLike 46 = .ok (.iload_n 2, 1) := by decide +kernel
theorem dX8_jarsLike_47 : decode cX8_jarsLike 47 = .ok (.ireturn, 1) := by decide +kernel
theorem dX8_unitsInJars_0 : decode cX8_unitsInJars 0 = .ok (.iconst 0, 1) := by decide +kernel
theorem dX8_unitsInJars_1 : decode cX8_unitsInJars 1 = .ok (.istore_n 1, 1) := by decide +kernel
theorem dX8_unitsInJars_2 : decode cX8_unitsInJars 2 = .ok (.iconst 0, 1) := by decide +kernel
theorem dX8_unitsInJars_3 : decode cX8_unitsInJars 3 = .ok (.istore_n 2, 1) := by decide +kernel
theorem dX8_unitsInJars_4 : decode cX8_unitsInJars 4 = .ok (.iload_n 2, 1) := by decide +kernel
theorem dX8_unitsInJars_5 : decode cX8_unitsInJars 5 = .ok (.aload_n 0, 1) := by decide +kernel
theorem dX8_unitsInJars_6 : decode cX8_unitsInJars 6 = .ok (.getfield 7, 3) := by decide +kernel
theorem dX8_unitsInJars_9 : decode cX8_unitsInJars 9 = .ok (.bipush 8, 2) := by decide +kernel
theorem dX8_unitsInJars_11 : decode cX8_unitsInJars 11 = .ok (.iaload, 1) := by decide +kernel
theorem dX8_unitsInJars_12 : decode cX8_unitsInJars 12 = .ok (.if_icmp .ge 20, 3) := by decide +kernel
theorem dX8_unitsInJars_15 : decode cX8_unitsInJars 15 = .ok (.iload_n 1, 1) := by decide +kernel
theorem dX8_unitsInJars_16 : decode cX8_unitsInJars 16 = .ok (.aload_n 0, 1) := by decide +kernel
theorem dX8_unitsInJars_17 : decode cX8_unitsInJars 17 = .ok (.iload_n 2, 1) := by decide +kernel
theorem dX8_unitsInJars_18 : decode cX8_unitsInJars 18 = .ok (.invokevirtual 76, 3) := by decide +kernel
theorem dX8_unitsInJars_21 : decode cX8_unitsInJars 21 = .ok (.invokestatic 79, 3) := by decide +kernel
theorem dX8_unitsInJars_24 : decode cX8_unitsInJars 24 = .ok (.iadd, 1) := by decide +kernel
theorem dX8_unitsInJars_25 : decode cX8_unitsInJars 25 = .ok (.istore_n 1, 1) := by decide +kernel
theorem dX8_unitsInJars_26 : decode cX8_unitsInJars 26 = .ok (.iinc 2 1, 3) := by decide +kernel
theorem dX8_unitsInJars_29 : decode cX8_unitsInJars 29 = .ok (.goto (-25), 3) := by decide +kernel
theorem dX8_unitsInJars_32 : decode cX8_unitsInJars 32 = .ok (.iload_n 1, 1) := by decide +kernel
theorem dX8_unitsInJars_33 : decode cX8_unitsInJars 33 = .ok (.ireturn, 1) := by decide +kernel
theorem dX8_comes_0 : decode cX8_comes 0 = .ok (.aload_n 0, 1) := by decide +kernel
theorem dX8_comes_1 : decode cX8_comes 1 = .ok (.getfield 7, 3) := by decide +kernel
theorem dX8_comes_4 : decode cX8_comes 4 = .ok (.bipush 8, 2) := by decide +kernel
theorem dX8_comes_6 : decode cX8_comes 6 = .ok (.iaload, 1) := by decide +kernel
theorem dX8_comes_7 : decode cX8_comes 7 = .ok (.bipush 12, 2) := by decide +kernel
theorem dX8_comes_9 : decode cX8_comes 9 = .ok (.if_icmp .eq 16, 3) := by decide +kernel
theorem dX8_comes_12 : decode cX8_comes 12 = .ok (.aload_n 0, 1) := by decide +kernel
theorem dX8_comes_13 : decode cX8_comes 13 = .ok (.getfield 7, 3) := by decide +kernel
theorem dX8_comes_16 : decode cX8_comes 16 = .ok (.bipush 33, 2) := by decide +kernel
theorem dX8_comes_18 : decode cX8_comes 18 = .ok (.iaload, 1) := by decide +kernel
theorem dX8_comes_19 : decode cX8_comes 19 = .ok (.sipush 200, 3) := by decide +kernel
theorem dX8_comes_22 : decode cX8_comes 22 = .ok (.if_icmp .ne 6, 3) := by decide +kernel
theorem dX8_comes_25 : decode cX8_comes 25 = .ok (.bipush (-3), 2) := by decide +kernel
theorem dX8_comes_27 : decode cX8_comes 27 = .ok (.ireturn, 1) := by decide +kernel
theorem dX8_comes_28 : decode cX8_comes 28 = .ok (.aload_n 0, 1) := by decide +kernel
theorem dX8_comes_29 : decode cX8_comes 29 = .ok (.getfield 7, 3) := by decide +kernel
theorem dX8_comes_32 : decode cX8_comes 32 = .ok (.bipush 33, 2) := by decide +kernel
theorem dX8_comes_34 : decode cX8_comes 34 = .ok (.iaload, 1) := by decide +kernel
theorem dX8_comes_35 : decode cX8_comes 35 = .ok (.istore 4, 2) := by decide +kernel
theorem dX8_comes_37 : decode cX8_comes 37 = .ok (.aload_n 0, 1) := by decide +kernel
theorem dX8_comes_38 : decode cX8_comes 38 = .ok (.getfield 7, 3) := by decide +kernel
theorem dX8_comes_41 : decode cX8_comes 41 = .ok (.bipush 9, 2) := by decide +kernel
theorem dX8_comes_43 : decode cX8_comes 43 = .ok (.iconst 2, 1) := by decide +kernel
theorem dX8_comes_44 : decode cX8_comes 44 = .ok (.aload_n 0, 1) := by decide +kernel
theorem dX8_comes_45 : decode cX8_comes 45 = .ok (.getfield 7, 3) := by decide +kernel
theorem dX8_comes_48 : decode cX8_comes 48 = .ok (.bipush 8, 2) := by decide +kernel
theorem dX8_comes_50 : decode cX8_comes 50 = .ok (.iaload, 1) := by decide +kernel
theorem dX8_comes_51 : decode cX8_comes 51 = .ok (.imul, 1) := by decide +kernel
theorem dX8_comes_52 : decode cX8_comes 52 = .ok (.iadd, 1) := by decide +kernel
theorem dX8_comes_53 : decode cX8_comes 53 = .ok (.iload 4, 2) := by decide +kernel
theorem dX8_comes_55 : decode cX8_comes 55 = .ok (.iastore, 1) := by decide +kernel
theorem dX8_comes_56 : decode cX8_comes 56 = .ok (.aload_n 0, 1) := by decide +kernel
theorem dX8_comes_57 : decode cX8_comes 57 = .ok (.getfield 7, 3) := by decide +kernel
theorem dX8_comes_60 : decode cX8_comes 60 = .ok (.bipush 9, 2) := by decide +kernel
theorem dX8_comes_62 : decode cX8_comes 62 = .ok (.iconst 2, 1) := by decide +kernel
theorem dX8_comes_63 : decode cX8_comes 63 = .ok (.aload_n 0, 1) := by decide +kernel
theorem dX8_comes_64 : decode cX8_comes 64 = .ok (.getfield 7, 3) := by decide +kernel
theorem dX8_comes_67 : decode cX8_comes 67 = .ok (.bipush 8, 2) := by decide +kernel
theorem dX8_comes_69 : decode cX8_comes 69 = .ok (.iaload, 1) := by decide +kernel
theorem dX8_comes_70 : decode cX8_comes 70 = .ok (.imul, 1) := by decide +kernel
theorem dX8_comes_71 : decode cX8_comes 71 = .ok (.iadd, 1) := by decide +kernel
theorem dX8_comes_72 : decode cX8_comes 72 = .ok (.iconst 1, 1) := by decide +kernel
theorem dX8_comes_73 : decode cX8_comes 73 = .ok (.iadd, 1) := by decide +kernel
theorem dX8_comes_74 : decode cX8_comes 74 = .ok (.iload_n 1, 1) := by decide +kernel
theorem dX8_comes_75 : decode cX8_comes 75 = .ok (.iastore, 1) := by decide +kernel
theorem dX8_comes_76 : decode cX8_comes 76 = .ok (.aload_n 0, 1) := by decide +kernel
theorem dX8_comes_77 : decode cX8_comes 77 = .ok (.getfield 7, 3) := by decide +kernel
theorem dX8_comes_80 : decode cX8_comes 80 = .ok (.bipush 8, 2) := by decide +kernel
theorem dX8_comes_82 : decode cX8_comes 82 = .ok (.dup2, 1) := by decide +kernel
theorem dX8_comes_83 : decode cX8_comes 83 = .ok (.iaload, 1) := by decide +kernel
theorem dX8_comes_84 : decode cX8_comes 84 = .ok (.iconst 1, 1) := by decide +kernel
theorem dX8_comes_85 : decode cX8_comes 85 = .ok (.iadd, 1) := by decide +kernel
theorem dX8_comes_86 : decode cX8_comes 86 = .ok (.iastore, 1) := by decide +kernel
theorem dX8_comes_87 : decode cX8_comes 87 = .ok (.aload_n 0, 1) := by decide +kernel
theorem dX8_comes_88 : decode cX8_comes 88 = .ok (.getfield 7, 3) := by decide +kernel
theorem dX8_comes_91 : decode cX8_comes 91 = .ok (.bipush 33, 2) := by decide +kernel
theorem dX8_comes_93 : decode cX8_comes 93 = .ok (.dup2, 1) := by decide +kernel
theorem dX8_comes_94 : decode cX8_comes 94 = .ok (.iaload, 1) := by decide +kernel
theorem dX8_comes_95 : decode cX8_comes 95 = .ok (.iconst 1, 1) := by decide +kernel
theorem dX8_comes_96 : decode cX8_comes 96 = .ok (.iadd, 1) := by decide +kernel
theorem dX8_comes_97 : decode cX8_comes 97 = .ok (.iastore, 1) := by decide +kernel
theorem dX8_comes_98 : decode cX8_comes 98 = .ok (.aload_n 0, 1) := by decide +kernel
theorem dX8_comes_99 : decode cX8_comes 99 = .ok (.getfield 7, 3) := by decide +kernel
theorem dX8_comes_102 : decode cX8_comes 102 = .ok (.bipush 52, 2) := by decide +kernel
theorem dX8_comes_104 : decode cX8_comes 104 = .ok (.dup2, 1) := by decide +kernel
theorem dX8_comes_105 : decode cX8_comes 105 = .ok (.iaload, 1) := by decide +kernel
theorem dX8_comes_106 : decode cX8_comes 106 = .ok (.iload_n 2, 1) := by decide +kernel
theorem dX8_comes_107 : decode cX8_comes 107 = .ok (.iadd, 1) := by decide +kernel
theorem dX8_comes_108 : decode cX8_comes 108 = .ok (.iastore, 1) := by decide +kernel
theorem dX8_comes_109 : decode cX8_comes 109 = .ok (.aload_n 0, 1) := by decide +kernel
theorem dX8_comes_110 : decode cX8_comes 110 = .ok (.getfield 7, 3) := by decide +kernel
theorem dX8_comes_113 : decode cX8_comes 113 = .ok (.bipush 56, 2) := by decide +kernel
theorem dX8_comes_115 : decode cX8_comes 115 = .ok (.dup2, 1) := by decide +kernel
theorem dX8_comes_116 : decode cX8_comes 116 = .ok (.iaload, 1) := by decide +kernel
theorem dX8_comes_117 : decode cX8_comes 117 = .ok (.iload_n 3, 1) := by decide +kernel
theorem dX8_comes_118 : decode cX8_comes 118 = .ok (.iadd, 1) := by decide +kernel
theorem dX8_comes_119 : decode cX8_comes 119 = .ok (.iastore, 1) := by decide +kernel
theorem dX8_comes_120 : decode cX8_comes 120 = .ok (.aload_n 0, 1) := by decide +kernel
theorem dX8_comes_121 : decode cX8_comes 121 = .ok (.getfield 7, 3) := by decide +kernel
theorem dX8_comes_124 : decode cX8_comes 124 = .ok (.bipush 53, 2) := by decide +kernel
theorem dX8_comes_126 : decode cX8_comes 126 = .ok (.dup2, 1) := by decide +kernel
theorem dX8_comes_127 : decode cX8_comes 127 = .ok (.iaload, 1) := by decide +kernel
theorem dX8_comes_128 : decode cX8_comes 128 = .ok (.iload_n 2, 1) := by decide +kernel
theorem dX8_comes_129 : decode cX8_comes 129 = .ok (.iload_n 1, 1) := by decide +kernel
theorem dX8_comes_130 : decode cX8_comes 130 = .ok (.invokestatic 79, 3) := by decide +kernel
theorem dX8_comes_133 : decode cX8_comes 133 = .ok (.isub, 1) := by decide +kernel
theorem dX8_comes_134 : decode cX8_comes 134 = .ok (.iadd, 1) := by decide +kernel
theorem dX8_comes_135 : decode cX8_comes 135 = .ok (.iastore, 1) := by decide +kernel
theorem dX8_comes_136 : decode cX8_comes 136 = .ok (.iload 4, 2) := by decide +kernel
theorem dX8_comes_138 : decode cX8_comes 138 = .ok (.ireturn, 1) := by decide +kernel
theorem dX8_pours_0 : decode cX8_pours 0 = .ok (.aload_n 0, 1) := by decide +kernel
theorem dX8_pours_1 : decode cX8_pours 1 = .ok (.iload_n 1, 1) := by decide +kernel
theorem dX8_pours_2 : decode cX8_pours 2 = .ok (.invokevirtual 82, 3) := by decide +kernel
theorem dX8_pours_5 : decode cX8_pours 5 = .ok (.istore_n 3, 1) := by decide +kernel
theorem dX8_pours_6 : decode cX8_pours 6 = .ok (.aload_n 0, 1) := by decide +kernel
theorem dX8_pours_7 : decode cX8_pours 7 = .ok (.iload_n 2, 1) := by decide +kernel
theorem dX8_pours_8 : decode cX8_pours 8 = .ok (.invokevirtual 82, 3) := by decide +kernel
theorem dX8_pours_11 : decode cX8_pours 11 = .ok (.istore 4, 2) := by decide +kernel
theorem dX8_pours_13 : decode cX8_pours 13 = .ok (.iload_n 3, 1) := by decide +kernel
theorem dX8_pours_14 : decode cX8_pours 14 = .ok (.bipush (-5), 2) := by decide +kernel
theorem dX8_pours_16 : decode cX8_pours 16 = .ok (.if_icmp .eq 10, 3) := by decide +kernel
theorem dX8_pours_19 : decode cX8_pours 19 = .ok (.iload 4, 2) := by decide +kernel
theorem dX8_pours_21 : decode cX8_pours 21 = .ok (.bipush (-5), 2) := by decide +kernel
theorem dX8_pours_23 : decode cX8_pours 23 = .ok (.if_icmp .ne 5, 3) := by decide +kernel
theorem dX8_pours_26 : decode cX8_pours 26 = .ok (.iconst (-1), 1) := by decide +kernel
theorem dX8_pours_27 : decode cX8_pours 27 = .ok (.ireturn, 1) := by decide +kernel
theorem dX8_pours_28 : decode cX8_pours 28 = .ok (.iload_n 3, 1) := by decide +kernel
theorem dX8_pours_29 : decode cX8_pours 29 = .ok (.iload 4, 2) := by decide +kernel
theorem dX8_pours_31 : decode cX8_pours 31 = .ok (.if_icmp .ne 6, 3) := by decide +kernel
theorem dX8_pours_34 : decode cX8_pours 34 = .ok (.bipush (-2), 2) := by decide +kernel
theorem dX8_pours_36 : decode cX8_pours 36 = .ok (.ireturn, 1) := by decide +kernel
theorem dX8_pours_37 : decode cX8_pours 37 = .ok (.aload_n 0, 1) := by decide +kernel
theorem dX8_pours_38 : decode cX8_pours 38 = .ok (.iload_n 3, 1) := by decide +kernel
theorem dX8_pours_39 : decode cX8_pours 39 = .ok (.invokevirtual 76, 3) := by decide +kernel
theorem dX8_pours_42 : decode cX8_pours 42 = .ok (.ifCond .ne 6, 3) := by decide +kernel
theorem dX8_pours_45 : decode cX8_pours 45 = .ok (.bipush (-5), 2) := by decide +kernel
theorem dX8_pours_47 : decode cX8_pours 47 = .ok (.ireturn, 1) := by decide +kernel
theorem dX8_pours_48 : decode cX8_pours 48 = .ok (.aload_n 0, 1) := by decide +kernel
theorem dX8_pours_49 : decode cX8_pours 49 = .ok (.iload_n 3, 1) := by decide +kernel
theorem dX8_pours_50 : decode cX8_pours 50 = .ok (.invokevirtual 76, 3) := by decide +kernel
theorem dX8_pours_53 : decode cX8_pours 53 = .ok (.aload_n 0, 1) := by decide +kernel
theorem dX8_pours_54 : decode cX8_pours 54 = .ok (.iload 4, 2) := by decide +kernel
theorem dX8_pours_56 : decode cX8_pours 56 = .ok (.invokevirtual 76, 3) := by decide +kernel
theorem dX8_pours_59 : decode cX8_pours 59 = .ok (.invokestatic 53, 3) := by decide +kernel
theorem dX8_pours_62 : decode cX8_pours 62 = .ok (.istore 5, 2) := by decide +kernel
theorem dX8_pours_64 : decode cX8_pours 64 = .ok (.aload_n 0, 1) := by decide +kernel
theorem dX8_pours_65 : decode cX8_pours 65 = .ok (.iload_n 3, 1) := by decide +kernel
theorem dX8_pours_66 : decode cX8_pours 66 = .ok (.invokevirtual 76, 3) := by decide +kernel
theorem dX8_pours_69 : decode cX8_pours 69 = .ok (.invokestatic 79, 3) := by decide +kernel
theorem dX8_pours_72 : decode cX8_pours 72 = .ok (.aload_n 0, 1) := by decide +kernel
theorem dX8_pours_73 : decode cX8_pours 73 = .ok (.iload 4, 2) := by decide +kernel
theorem dX8_pours_75 : decode cX8_pours 75 = .ok (.invokevirtual 76, 3) := by decide +kernel
theorem dX8_pours_78 : decode cX8_pours 78 = .ok (.invokestatic 79, 3) := by decide +kernel
theorem dX8_pours_81 : decode cX8_pours 81 = .ok (.iadd, 1) := by decide +kernel
theorem dX8_pours_82 : decode cX8_pours 82 = .ok (.iload 5, 2) := by decide +kernel
theorem dX8_pours_84 : decode cX8_pours 84 = .ok (.invokestatic 79, 3) := by decide +kernel
theorem dX8_pours_87 : decode cX8_pours 87 = .ok (.isub, 1) := by decide +kernel
theorem dX8_pours_88 : decode cX8_pours 88 = .ok (.istore 6, 2) := by decide +kernel
theorem dX8_pours_90 : decode cX8_pours 90 = .ok (.aload_n 0, 1) := by decide +kernel
theorem dX8_pours_91 : decode cX8_pours 91 = .ok (.getfield 7, 3) := by decide +kernel
theorem dX8_pours_94 : decode cX8_pours 94 = .ok (.bipush 9, 2) := by decide +kernel
theorem dX8_pours_96 : decode cX8_pours 96 = .ok (.iconst 2, 1) := by decide +kernel
theorem dX8_pours_97 : decode cX8_pours 97 = .ok (.iload_n 3, 1) := by decide +kernel
theorem dX8_pours_98 : decode cX8_pours 98 = .ok (.imul, 1) := by decide +kernel
theorem dX8_pours_99 : decode cX8_pours 99 = .ok (.iadd, 1) := by decide +kernel
theorem dX8_pours_100 : decode cX8_pours 100 = .ok (.iconst 1, 1) := by decide +kernel
theorem dX8_pours_101 : decode cX8_pours 101 = .ok (.iadd, 1) := by decide +kernel
theorem dX8_pours_102 : decode cX8_pours 102 = .ok (.iconst 0, 1) := by decide +kernel
theorem dX8_pours_103 : decode cX8_pours 103 = .ok (.iastore, 1) := by decide +kernel
theorem dX8_pours_104 : decode cX8_pours 104 = .ok (.aload_n 0, 1) := by decide +kernel
theorem dX8_pours_105 : decode cX8_pours 105 = .ok (.getfield 7, 3) := by decide +kernel
theorem dX8_pours_108 : decode cX8_pours 108 = .ok (.bipush 9, 2) := by decide +kernel
theorem dX8_pours_110 : decode cX8_pours 110 = .ok (.iconst 2, 1) := by decide +kernel
theorem dX8_pours_111 : decode cX8_pours 111 = .ok (.iload 4, 2) := by decide +kernel
theorem dX8_pours_113 : decode cX8_pours 113 = .ok (.imul, 1) := by decide +kernel
theorem dX8_pours_114 : decode cX8_pours 114 = .ok (.iadd, 1) := by decide +kernel
theorem dX8_pours_115 : decode cX8_pours 115 = .ok (.iconst 1, 1) := by decide +kernel
theorem dX8_pours_116 : decode cX8_pours 116 = .ok (.iadd, 1) := by decide +kernel
theorem dX8_pours_117 : decode cX8_pours 117 = .ok (.iload 5, 2) := by decide +kernel
theorem dX8_pours_119 : decode cX8_pours 119 = .ok (.iastore, 1) := by decide +kernel
theorem dX8_pours_120 : decode cX8_pours 120 = .ok (.aload_n 0, 1) := by decide +kernel
theorem dX8_pours_121 : decode cX8_pours 121 = .ok (.getfield 7, 3) := by decide +kernel
theorem dX8_pours_124 : decode cX8_pours 124 = .ok (.bipush 53, 2) := by decide +kernel
theorem dX8_pours_126 : decode cX8_pours 126 = .ok (.dup2, 1) := by decide +kernel
theorem dX8_pours_127 : decode cX8_pours 127 = .ok (.iaload, 1) := by decide +kernel
theorem dX8_pours_128 : decode cX8_pours 128 = .ok (.iload 6, 2) := by decide +kernel
theorem dX8_pours_130 : decode cX8_pours 130 = .ok (.iadd, 1) := by decide +kernel
theorem dX8_pours_131 : decode cX8_pours 131 = .ok (.iastore, 1) := by decide +kernel
theorem dX8_pours_132 : decode cX8_pours 132 = .ok (.iload 6, 2) := by decide +kernel
theorem dX8_pours_134 : decode cX8_pours 134 = .ok (.ireturn, 1) := by decide +kernel
theorem dX8_buysMore_0 : decode cX8_buysMore 0 = .ok (.aload_n 0, 1) := by decide +kernel
theorem dX8_buysMore_1 : decode cX8_buysMore 1 = .ok (.iload_n 1, 1) := by decide +kernel
theorem dX8_buysMore_2 : decode cX8_buysMore 2 = .ok (.invokevirtual 82, 3) := by decide +kernel
theorem dX8_buysMore_5 : decode cX8_buysMore 5 = .ok (.istore_n 2, 1) := by decide +kernel
theorem dX8_buysMore_6 : decode cX8_buysMore 6 = .ok (.iload_n 2, 1) := by decide +kernel
theorem dX8_buysMore_7 : decode cX8_buysMore 7 = .ok (.bipush (-5), 2) := by decide +kernel
theorem dX8_buysMore_9 : decode cX8_buysMore 9 = .ok (.if_icmp .ne 5, 3) := by decide +kernel
theorem dX8_buysMore_12 : decode cX8_buysMore 12 = .ok (.iconst (-1), 1) := by decide +kernel
theorem dX8_buysMore_13 : decode cX8_buysMore 13 = .ok (.ireturn, 1) := by decide +kernel
theorem dX8_buysMore_14 : decode cX8_buysMore 14 = .ok (.aload_n 0, 1) := by decide +kernel
theorem dX8_buysMore_15 : decode cX8_buysMore 15 = .ok (.iload_n 2, 1) := by decide +kernel
theorem dX8_buysMore_16 : decode cX8_buysMore 16 = .ok (.invokevirtual 76, 3) := by decide +kernel
theorem dX8_buysMore_19 : decode cX8_buysMore 19 = .ok (.istore_n 3, 1) := by decide +kernel
theorem dX8_buysMore_20 : decode cX8_buysMore 20 = .ok (.iload_n 3, 1) := by decide +kernel
theorem dX8_buysMore_21 : decode cX8_buysMore 21 = .ok (.ifCond .ne 6, 3) := by decide +kernel
theorem dX8_buysMore_24 : decode cX8_buysMore 24 = .ok (.bipush (-5), 2) := by decide +kernel
theorem dX8_buysMore_26 : decode cX8_buysMore 26 = .ok (.ireturn, 1) := by decide +kernel
theorem dX8_buysMore_27 : decode cX8_buysMore 27 = .ok (.iload_n 3, 1) := by decide +kernel
theorem dX8_buysMore_28 : decode cX8_buysMore 28 = .ok (.iload_n 3, 1) := by decide +kernel
theorem dX8_buysMore_29 : decode cX8_buysMore 29 = .ok (.invokestatic 53, 3) := by decide +kernel
theorem dX8_buysMore_32 : decode cX8_buysMore 32 = .ok (.istore 4, 2) := by decide +kernel
theorem dX8_buysMore_34 : decode cX8_buysMore 34 = .ok (.aload_n 0, 1) := by decide +kernel
theorem dX8_buysMore_35 : decode cX8_buysMore 35 = .ok (.getfield 7, 3) := by decide +kernel
theorem dX8_buysMore_38 : decode cX8_buysMore 38 = .ok (.bipush 9, 2) := by decide +kernel
theorem dX8_buysMore_40 : decode cX8_buysMore 40 = .ok (.iconst 2, 1) := by decide +kernel
theorem dX8_buysMore_41 : decode cX8_buysMore 41 = .ok (.iload_n 2, 1) := by decide +kernel
theorem dX8_buysMore_42 : decode cX8_buysMore 42 = .ok (.imul, 1) := by decide +kernel
theorem dX8_buysMore_43 : decode cX8_buysMore 43 = .ok (.iadd, 1) := by decide +kernel
theorem dX8_buysMore_44 : decode cX8_buysMore 44 = .ok (.iconst 1, 1) := by decide +kernel
theorem dX8_buysMore_45 : decode cX8_buysMore 45 = .ok (.iadd, 1) := by decide +kernel
theorem dX8_buysMore_46 : decode cX8_buysMore 46 = .ok (.iload 4, 2) := by decide +kernel
theorem dX8_buysMore_48 : decode cX8_buysMore 48 = .ok (.iastore, 1) := by decide +kernel
theorem dX8_buysMore_49 : decode cX8_buysMore 49 = .ok (.aload_n 0, 1) := by decide +kernel
theorem dX8_buysMore_50 : decode cX8_buysMore 50 = .ok (.getfield 7, 3) := by decide +kernel
theorem dX8_buysMore_53 : decode cX8_buysMore 53 = .ok (.bipush 52, 2) := by decide +kernel
theorem dX8_buysMore_55 : decode cX8_buysMore 55 = .ok (.dup2, 1) := by decide +kernel
theorem dX8_buysMore_56 : decode cX8_buysMore 56 = .ok (.iaload, 1) := by decide +kernel
theorem dX8_buysMore_57 : decode cX8_buysMore 57 = .ok (.iload_n 3, 1) := by decide +kernel
theorem dX8_buysMore_58 : decode cX8_buysMore 58 = .ok (.invokestatic 79, 3) := by decide +kernel
theorem dX8_buysMore_61 : decode cX8_buysMore 61 = .ok (.iadd, 1) := by decide +kernel
theorem dX8_buysMore_62 : decode cX8_buysMore 62 = .ok (.iastore, 1) := by decide +kernel
theorem dX8_buysMore_63 : decode cX8_buysMore 63 = .ok (.aload_n 0, 1) := by decide +kernel
theorem dX8_buysMore_64 : decode cX8_buysMore 64 = .ok (.getfield 7, 3) := by decide +kernel
theorem dX8_buysMore_67 : decode cX8_buysMore 67 = .ok (.bipush 56, 2) := by decide +kernel
theorem dX8_buysMore_69 : decode cX8_buysMore 69 = .ok (.dup2, 1) := by decide +kernel
theorem dX8_buysMore_70 : decode cX8_buysMore 70 = .ok (.iaload, 1) := by decide +kernel
theorem dX8_buysMore_71 : decode cX8_buysMore 71 = .ok (.aload_n 0, 1) := by decide +kernel
theorem dX8_buysMore_72 : decode cX8_buysMore 72 = .ok (.iload_n 3, 1) := by decide +kernel
theorem dX8_buysMore_73 : decode cX8_buysMore 73 = .ok (.invokevirtual 70, 3) := by decide +kernel
theorem dX8_buysMore_76 : decode cX8_buysMore 76 = .ok (.iadd, 1) := by decide +kernel
theorem dX8_buysMore_77 : decode cX8_buysMore 77 = .ok (.iastore, 1) := by decide +kernel
theorem dX8_buysMore_78 : decode cX8_buysMore 78 = .ok (.aload_n 0, 1) := by decide +kernel
theorem dX8_buysMore_79 : decode cX8_buysMore 79 = .ok (.getfield 7, 3) := by decide +kernel
theorem dX8_buysMore_82 : decode cX8_buysMore 82 = .ok (.bipush 53, 2) := by decide +kernel
theorem dX8_buysMore_84 : decode cX8_buysMore 84 = .ok (.dup2, 1) := by decide +kernel
theorem dX8_buysMore_85 : decode cX8_buysMore 85 = .ok (.iaload, 1) := by decide +kernel
theorem dX8_buysMore_86 : decode cX8_buysMore 86 = .ok (.iconst 2, 1) := by decide +kernel
theorem dX8_buysMore_87 : decode cX8_buysMore 87 = .ok (.iload_n 3, 1) := by decide +kernel
theorem dX8_buysMore_88 : decode cX8_buysMore 88 = .ok (.invokestatic 79, 3) := by decide +kernel
theorem dX8_buysMore_91 : decode cX8_buysMore 91 = .ok (.imul, 1) := by decide +kernel
theorem dX8_buysMore_92 : decode cX8_buysMore 92 = .ok (.iload 4, 2) := by decide +kernel
theorem dX8_buysMore_94 : decode cX8_buysMore 94 = .ok (.invokestatic 79, 3) := by decide +kernel
theorem dX8_buysMore_97 : decode cX8_buysMore 97 = .ok (.isub, 1) := by decide +kernel
theorem dX8_buysMore_98 : decode cX8_buysMore 98 = .ok (.iadd, 1) := by decide +kernel
theorem dX8_buysMore_99 : decode cX8_buysMore 99 = .ok (.iastore, 1) := by decide +kernel
theorem dX8_buysMore_100 : decode cX8_buysMore 100 = .ok (.iload 4, 2) := by decide +kernel
theorem dX8_buysMore_102 : decode cX8_buysMore 102 = .ok (.ireturn, 1) := by decide +kernel
theorem dX8_rules_0 : decode cX8_rules 0 = .ok (.aload_n 0, 1) := by decide +kernel
theorem dX8_rules_1 : decode cX8_rules 1 = .ok (.getfield 7, 3) := by decide +kernel
theorem dX8_rules_4 : decode cX8_rules 4 = .ok (.bipush 34, 2) := by decide +kernel
theorem dX8_rules_6 : decode cX8_rules 6 = .ok (.iaload, 1) := by decide +kernel
theorem dX8_rules_7 : decode cX8_rules 7 = .ok (.bipush 8, 2) := by decide +kernel
theorem dX8_rules_9 : decode cX8_rules 9 = .ok (.if_icmp .ne 6, 3) := by decide +kernel
theorem dX8_rules_12 : decode cX8_rules 12 = .ok (.bipush (-3), 2) := by decide +kernel
theorem dX8_rules_14 : decode cX8_rules 14 = .ok (.ireturn, 1) := by decide +kernel
theorem dX8_rules_15 : decode cX8_rules 15 = .ok (.aload_n 0, 1) := by decide +kernel
theorem dX8_rules_16 : decode cX8_rules 16 = .ok (.getfield 7, 3) := by decide +kernel
theorem dX8_rules_19 : decode cX8_rules 19 = .ok (.bipush 35, 2) := by decide +kernel
theorem dX8_rules_21 : decode cX8_rules 21 = .ok (.aload_n 0, 1) := by decide +kernel
theorem dX8_rules_22 : decode cX8_rules 22 = .ok (.getfield 7, 3) := by decide +kernel
theorem dX8_rules_25 : decode cX8_rules 25 = .ok (.bipush 34, 2) := by decide +kernel
theorem dX8_rules_27 : decode cX8_rules 27 = .ok (.iaload, 1) := by decide +kernel
theorem dX8_rules_28 : decode cX8_rules 28 = .ok (.iadd, 1) := by decide +kernel
theorem dX8_rules_29 : decode cX8_rules 29 = .ok (.iload_n 1, 1) := by decide +kernel
theorem dX8_rules_30 : decode cX8_rules 30 = .ok (.iastore, 1) := by decide +kernel
theorem dX8_rules_31 : decode cX8_rules 31 = .ok (.aload_n 0, 1) := by decide +kernel
theorem dX8_rules_32 : decode cX8_rules 32 = .ok (.getfield 7, 3) := by decide +kernel
theorem dX8_rules_35 : decode cX8_rules 35 = .ok (.bipush 34, 2) := by decide +kernel
theorem dX8_rules_37 : decode cX8_rules 37 = .ok (.dup2, 1) := by decide +kernel
theorem dX8_rules_38 : decode cX8_rules 38 = .ok (.iaload, 1) := by decide +kernel
theorem dX8_rules_39 : decode cX8_rules 39 = .ok (.iconst 1, 1) := by decide +kernel
theorem dX8_rules_40 : decode cX8_rules 40 = .ok (.iadd, 1) := by decide +kernel
theorem dX8_rules_41 : decode cX8_rules 41 = .ok (.iastore, 1) := by decide +kernel
theorem dX8_rules_42 : decode cX8_rules 42 = .ok (.iconst 0, 1) := by decide +kernel
theorem dX8_rules_43 : decode cX8_rules 43 = .ok (.ireturn, 1) := by decide +kernel
theorem dX8_drops_0 : decode cX8_drops 0 = .ok (.iload_n 1, 1) := by decide +kernel
theorem dX8_drops_1 : decode cX8_drops 1 = .ok (.iconst 0, 1) := by decide +kernel
theorem dX8_drops_2 : decode cX8_drops 2 = .ok (.aload_n 0, 1) := by decide +kernel
theorem dX8_drops_3 : decode cX8_drops 3 = .ok (.getfield 7, 3) := by decide +kernel
theorem dX8_drops_6 : decode cX8_drops 6 = .ok (.bipush 34, 2) := by decide +kernel
theorem dX8_drops_8 : decode cX8_drops 8 = .ok (.iaload, 1) := by decide +kernel
theorem dX8_drops_9 : decode cX8_drops 9 = .ok (.iconst 1, 1) := by decide +kernel
theorem dX8_drops_10 : decode cX8_drops 10 = .ok (.isub, 1) := by decide +kernel
theorem dX8_drops_11 : decode cX8_drops 11 = .ok (.invokestatic 41, 3) := by decide +kernel
theorem dX8_drops_14 : decode cX8_drops 14 = .ok (.ifCond .ne 5, 3) := by decide +kernel
theorem dX8_drops_17 : decode cX8_drops 17 = .ok (.iconst (-1), 1) := by decide +kernel
theorem dX8_drops_18 : decode cX8_drops 18 = .ok (.ireturn, 1) := by decide +kernel
theorem dX8_drops_19 : decode cX8_drops 19 = .ok (.aload_n 0, 1) := by decide +kernel
theorem dX8_drops_20 : decode cX8_drops 20 = .ok (.getfield 7, 3) := by decide +kernel
theorem dX8_drops_23 : decode cX8_drops 23 = .ok (.bipush 34, 2) := by decide +kernel
theorem dX8_drops_25 : decode cX8_drops 25 = .ok (.dup2, 1) := by decide +kernel
theorem dX8_drops_26 : decode cX8_drops 26 = .ok (.iaload, 1) := by decide +kernel
theorem dX8_drops_27 : decode cX8_drops 27 = .ok (.iconst 1, 1) := by decide +kernel
theorem dX8_drops_28 : decode cX8_drops 28 = .ok (.isub, 1) := by decide +kernel
theorem dX8_drops_29 : decode cX8_drops 29 = .ok (.iastore, 1) := by decide +kernel
theorem dX8_drops_30 : decode cX8_drops 30 = .ok (.iload_n 1, 1) := by decide +kernel
theorem dX8_drops_31 : decode cX8_drops 31 = .ok (.istore_n 2, 1) := by decide +kernel
theorem dX8_drops_32 : decode cX8_drops 32 = .ok (.iload_n 2, 1) := by decide +kernel
theorem dX8_drops_33 : decode cX8_drops 33 = .ok (.aload_n 0, 1) := by decide +kernel
theorem dX8_drops_34 : decode cX8_drops 34 = .ok (.getfield 7, 3) := by decide +kernel
theorem dX8_drops_37 : decode cX8_drops 37 = .ok (.bipush 34, 2) := by decide +kernel
theorem dX8_drops_39 : decode cX8_drops 39 = .ok (.iaload, 1) := by decide +kernel
theorem dX8_drops_40 : decode cX8_drops 40 = .ok (.if_icmp .ge 29, 3) := by decide +kernel
theorem dX8_drops_43 : decode cX8_drops 43 = .ok (.aload_n 0, 1) := by decide +kernel
theorem dX8_drops_44 : decode cX8_drops 44 = .ok (.getfield 7, 3) := by decide +kernel
theorem dX8_drops_47 : decode cX8_drops 47 = .ok (.bipush 35, 2) := by decide +kernel
theorem dX8_drops_49 : decode cX8_drops 49 = .ok (.iload_n 2, 1) := by decide +kernel
theorem dX8_drops_50 : decode cX8_drops 50 = .ok (.iadd, 1) := by decide +kernel
theorem dX8_drops_51 : decode cX8_drops 51 = .ok (.aload_n 0, 1) := by decide +kernel
theorem dX8_drops_52 : decode cX8_drops 52 = .ok (.getfield 7, 3) := by decide +kernel
theorem dX8_drops_55 : decode cX8_drops 55 = .ok (.bipush 35, 2) := by decide +kernel
theorem dX8_drops_57 : decode cX8_drops 57 = .ok (.iload_n 2, 1) := by decide +kernel
theorem dX8_drops_58 : decode cX8_drops 58 = .ok (.iadd, 1) := by decide +kernel
theorem dX8_drops_59 : decode cX8_drops 59 = .ok (.iconst 1, 1) := by decide +kernel
theorem dX8_drops_60 : decode cX8_drops 60 = .ok (.iadd, 1) := by decide +kernel
theorem dX8_drops_61 : decode cX8_drops 61 = .ok (.iaload, 1) := by decide +kernel
theorem dX8_drops_62 : decode cX8_drops 62 = .ok (.iastore, 1) := by decide +kernel
theorem dX8_drops_63 : decode cX8_drops 63 = .ok (.iinc 2 1, 3) := by decide +kernel
theorem dX8_drops_66 : decode cX8_drops 66 = .ok (.goto (-34), 3) := by decide +kernel
theorem dX8_drops_69 : decode cX8_drops 69 = .ok (.aload_n 0, 1) := by decide +kernel
theorem dX8_drops_70 : decode cX8_drops 70 = .ok (.getfield 7, 3) := by decide +kernel
theorem dX8_drops_73 : decode cX8_drops 73 = .ok (.bipush 35, 2) := by decide +kernel
theorem dX8_drops_75 : decode cX8_drops 75 = .ok (.aload_n 0, 1) := by decide +kernel
theorem dX8_drops_76 : decode cX8_drops 76 = .ok (.getfield 7, 3) := by decide +kernel
theorem dX8_drops_79 : decode cX8_drops 79 = .ok (.bipush 34, 2) := by decide +kernel
theorem dX8_drops_81 : decode cX8_drops 81 = .ok (.iaload, 1) := by decide +kernel
theorem dX8_drops_82 : decode cX8_drops 82 = .ok (.iadd, 1) := by decide +kernel
theorem dX8_drops_83 : decode cX8_drops 83 = .ok (.iconst 0, 1) := by decide +kernel
theorem dX8_drops_84 : decode cX8_drops 84 = .ok (.iastore, 1) := by decide +kernel
theorem dX8_drops_85 : decode cX8_drops 85 = .ok (.iconst 0, 1) := by decide +kernel
theorem dX8_drops_86 : decode cX8_drops 86 = .ok (.ireturn, 1) := by decide +kernel
theorem dX8_wants_0 : decode cX8_wants 0 = .ok (.aload_n 0, 1) := by decide +kernel
theorem dX8_wants_1 : decode cX8_wants 1 = .ok (.getfield 7, 3) := by decide +kernel
theorem dX8_wants_4 : decode cX8_wants 4 = .ok (.bipush 43, 2) := by decide +kernel
theorem dX8_wants_6 : decode cX8_wants 6 = .ok (.iaload, 1) := by decide +kernel
theorem dX8_wants_7 : decode cX8_wants 7 = .ok (.bipush 8, 2) := by decide +kernel
theorem dX8_wants_9 : decode cX8_wants 9 = .ok (.if_icmp .ne 6, 3) := by decide +kernel
theorem dX8_wants_12 : decode cX8_wants 12 = .ok (.bipush (-3), 2) := by decide +kernel
theorem dX8_wants_14 : decode cX8_wants 14 = .ok (.ireturn, 1) := by decide +kernel
theorem dX8_wants_15 : decode cX8_wants 15 = .ok (.aload_n 0, 1) := by decide +kernel
theorem dX8_wants_16 : decode cX8_wants 16 = .ok (.getfield 7, 3) := by decide +kernel
theorem dX8_wants_19 : decode cX8_wants 19 = .ok (.bipush 44, 2) := by decide +kernel
theorem dX8_wants_21 : decode cX8_wants 21 = .ok (.aload_n 0, 1) := by decide +kernel
theorem dX8_wants_22 : decode cX8_wants 22 = .ok (.getfield 7, 3) := by decide +kernel
theorem dX8_wants_25 : decode cX8_wants 25 = .ok (.bipush 43, 2) := by decide +kernel
theorem dX8_wants_27 : decode cX8_wants 27 = .ok (.iaload, 1) := by decide +kernel
theorem dX8_wants_28 : decode cX8_wants 28 = .ok (.iadd, 1) := by decide +kernel
theorem dX8_wants_29 : decode cX8_wants 29 = .ok (.iload_n 1, 1) := by decide +kernel
theorem dX8_wants_30 : decode cX8_wants 30 = .ok (.iastore, 1) := by decide +kernel
theorem dX8_wants_31 : decode cX8_wants 31 = .ok (.aload_n 0, 1) := by decide +kernel
theorem dX8_wants_32 : decode cX8_wants 32 = .ok (.getfield 7, 3) := by decide +kernel
theorem dX8_wants_35 : decode cX8_wants 35 = .ok (.bipush 43, 2) := by decide +kernel
theorem dX8_wants_37 : decode cX8_wants 37 = .ok (.dup2, 1) := by decide +kernel
theorem dX8_wants_38 : decode cX8_wants 38 = .ok (.iaload, 1) := by decide +kernel
theorem dX8_wants_39 : decode cX8_wants 39 = .ok (.iconst 1, 1) := by decide +kernel
theorem dX8_wants_40 : decode cX8_wants 40 = .ok (.iadd, 1) := by decide +kernel
theorem dX8_wants_41 : decode cX8_wants 41 = .ok (.iastore, 1) := by decide +kernel
theorem dX8_wants_42 : decode cX8_wants 42 = .ok (.aload_n 0, 1) := by decide +kernel
theorem dX8_wants_43 : decode cX8_wants 43 = .ok (.getfield 7, 3) := by decide +kernel
theorem dX8_wants_46 : decode cX8_wants 46 = .ok (.bipush 43, 2) := by decide +kernel
theorem dX8_wants_48 : decode cX8_wants 48 = .ok (.iaload, 1) := by decide +kernel
theorem dX8_wants_49 : decode cX8_wants 49 = .ok (.ireturn, 1) := by decide +kernel
theorem dX8_serves_0 : decode cX8_serves 0 = .ok (.aload_n 0, 1) := by decide +kernel
theorem dX8_serves_1 : decode cX8_serves 1 = .ok (.getfield 7, 3) := by decide +kernel
theorem dX8_serves_4 : decode cX8_serves 4 = .ok (.bipush 43, 2) := by decide +kernel
theorem dX8_serves_6 : decode cX8_serves 6 = .ok (.iaload, 1) := by decide +kernel
theorem dX8_serves_7 : decode cX8_serves 7 = .ok (.ifCond .ne 6, 3) := by decide +kernel
theorem dX8_serves_10 : decode cX8_serves 10 = .ok (.bipush (-5), 2) := by decide +kernel
theorem dX8_serves_12 : decode cX8_serves 12 = .ok (.ireturn, 1) := by decide +kernel
theorem dX8_serves_13 : decode cX8_serves 13 = .ok (.aload_n 0, 1) := by decide +kernel
theorem dX8_serves_14 : decode cX8_serves 14 = .ok (.aload_n 0, 1) := by decide +kernel
theorem dX8_serves_15 : decode cX8_serves 15 = .ok (.getfield 7, 3) := by decide +kernel
theorem dX8_serves_18 : decode cX8_serves 18 = .ok (.bipush 44, 2) := by decide +kernel
theorem dX8_serves_20 : decode cX8_serves 20 = .ok (.iaload, 1) := by decide +kernel
theorem dX8_serves_21 : decode cX8_serves 21 = .ok (.invokevirtual 67, 3) := by decide +kernel
theorem dX8_serves_24 : decode cX8_serves 24 = .ok (.istore_n 1, 1) := by decide +kernel
theorem dX8_serves_25 : decode cX8_serves 25 = .ok (.aload_n 0, 1) := by decide +kernel
theorem dX8_serves_26 : decode cX8_serves 26 = .ok (.getfield 7, 3) := by decide +kernel
theorem dX8_serves_29 : decode cX8_serves 29 = .ok (.bipush 43, 2) := by decide +kernel
theorem dX8_serves_31 : decode cX8_serves 31 = .ok (.dup2, 1) := by decide +kernel
theorem dX8_serves_32 : decode cX8_serves 32 = .ok (.iaload, 1) := by decide +kernel
theorem dX8_serves_33 : decode cX8_serves 33 = .ok (.iconst 1, 1) := by decide +kernel
theorem dX8_serves_34 : decode cX8_serves 34 = .ok (.isub, 1) := by decide +kernel
theorem dX8_serves_35 : decode cX8_serves 35 = .ok (.iastore, 1) := by decide +kernel
theorem dX8_serves_36 : decode cX8_serves 36 = .ok (.iconst 0, 1) := by decide +kernel
theorem dX8_serves_37 : decode cX8_serves 37 = .ok (.istore_n 2, 1) := by decide +kernel
theorem dX8_serves_38 : decode cX8_serves 38 = .ok (.iload_n 2, 1) := by decide +kernel
theorem dX8_serves_39 : decode cX8_serves 39 = .ok (.aload_n 0, 1) := by decide +kernel
theorem dX8_serves_40 : decode cX8_serves 40 = .ok (.getfield 7, 3) := by decide +kernel
theorem dX8_serves_43 : decode cX8_serves 43 = .ok (.bipush 43, 2) := by decide +kernel
theorem dX8_serves_45 : decode cX8_serves 45 = .ok (.iaload, 1) := by decide +kernel
theorem dX8_serves_46 : decode cX8_serves 46 = .ok (.if_icmp .ge 29, 3) := by decide +kernel
theorem dX8_serves_49 : decode cX8_serves 49 = .ok (.aload_n 0, 1) := by decide +kernel
theorem dX8_serves_50 : decode cX8_serves 50 = .ok (.getfield 7, 3) := by decide +kernel
theorem dX8_serves_53 : decode cX8_serves 53 = .ok (.bipush 44, 2) := by decide +kernel
theorem dX8_serves_55 : decode cX8_serves 55 = .ok (.iload_n 2, 1) := by decide +kernel
theorem dX8_serves_56 : decode cX8_serves 56 = .ok (.iadd, 1) := by decide +kernel
theorem dX8_serves_57 : decode cX8_serves 57 = .ok (.aload_n 0, 1) := by decide +kernel
theorem dX8_serves_58 : decode cX8_serves 58 = .ok (.getfield 7, 3) := by decide +kernel
theorem dX8_serves_61 : decode cX8_serves 61 = .ok (.bipush 44, 2) := by decide +kernel
theorem dX8_serves_63 : decode cX8_serves 63 = .ok (.iload_n 2, 1) := by decide +kernel
theorem dX8_serves_64 : decode cX8_serves 64 = .ok (.iadd, 1) := by decide +kernel
theorem dX8_serves_65 : decode cX8_serves 65 = .ok (.iconst 1, 1) := by decide +kernel
theorem dX8_serves_66 : decode cX8_serves 66 = .ok (.iadd, 1) := by decide +kernel
theorem dX8_serves_67 : decode cX8_serves 67 = .ok (.iaload, 1) := by decide +kernel
theorem dX8_serves_68 : decode cX8_serves 68 = .ok (.iastore, 1) := by decide +kernel
theorem dX8_serves_69 : decode cX8_serves 69 = .ok (.iinc 2 1, 3) := by decide +kernel
theorem dX8_serves_72 : decode cX8_serves 72 = .ok (.goto (-34), 3) := by decide +kernel
theorem dX8_serves_75 : decode cX8_serves 75 = .ok (.aload_n 0, 1) := by decide +kernel
theorem dX8_serves_76 : decode cX8_serves 76 = .ok (.getfield 7, 3) := by decide +kernel
theorem dX8_serves_79 : decode cX8_serves 79 = .ok (.bipush 44, 2) := by decide +kernel
theorem dX8_serves_81 : decode cX8_serves 81 = .ok (.aload_n 0, 1) := by decide +kernel
theorem dX8_serves_82 : decode cX8_serves 82 = .ok (.getfield 7, 3) := by decide +kernel
theorem dX8_serves_85 : decode cX8_serves 85 = .ok (.bipush 43, 2) := by decide +kernel
theorem dX8_serves_87 : decode cX8_serves 87 = .ok (.iaload, 1) := by decide +kernel
theorem dX8_serves_88 : decode cX8_serves 88 = .ok (.iadd, 1) := by decide +kernel
theorem dX8_serves_89 : decode cX8_serves 89 = .ok (.iconst 0, 1) := by decide +kernel
theorem dX8_serves_90 : decode cX8_serves 90 = .ok (.iastore, 1) := by decide +kernel
theorem dX8_serves_91 : decode cX8_serves 91 = .ok (.iconst 0, 1) := by decide +kernel
theorem dX8_serves_92 : decode cX8_serves 92 = .ok (.istore_n 2, 1) := by decide +kernel
theorem dX8_serves_93 : decode cX8_serves 93 = .ok (.iload_n 2, 1) := by decide +kernel
theorem dX8_serves_94 : decode cX8_serves 94 = .ok (.aload_n 0, 1) := by decide +kernel
theorem dX8_serves_95 : decode cX8_serves 95 = .ok (.getfield 7, 3) := by decide +kernel
theorem dX8_serves_98 : decode cX8_serves 98 = .ok (.bipush 8, 2) := by decide +kernel
theorem dX8_serves_100 : decode cX8_serves 100 = .ok (.iaload, 1) := by decide +kernel
theorem dX8_serves_101 : decode cX8_serves 101 = .ok (.if_icmp .ge 84, 3) := by decide +kernel
theorem dX8_serves_104 : decode cX8_serves 104 = .ok (.aload_n 0, 1) := by decide +kernel
theorem dX8_serves_105 : decode cX8_serves 105 = .ok (.iload_n 2, 1) := by decide +kernel
theorem dX8_serves_106 : decode cX8_serves 106 = .ok (.invokevirtual 76, 3) := by decide +kernel
theorem dX8_serves_109 : decode cX8_serves 109 = .ok (.istore_n 3, 1) := by decide +kernel
theorem dX8_serves_110 : decode cX8_serves 110 = .ok (.aload_n 0, 1) := by decide +kernel
theorem dX8_serves_111 : decode cX8_serves 111 = .ok (.iload_n 3, 1) := by decide +kernel
theorem dX8_serves_112 : decode cX8_serves 112 = .ok (.invokevirtual 67, 3) := by decide +kernel
theorem dX8_serves_115 : decode cX8_serves 115 = .ok (.iload_n 1, 1) := by decide +kernel
theorem dX8_serves_116 : decode cX8_serves 116 = .ok (.if_icmp .ne 63, 3) := by decide +kernel
theorem dX8_serves_119 : decode cX8_serves 119 = .ok (.aload_n 0, 1) := by decide +kernel
theorem dX8_serves_120 : decode cX8_serves 120 = .ok (.iload_n 3, 1) := by decide +kernel
theorem dX8_serves_121 : decode cX8_serves 121 = .ok (.invokevirtual 70, 3) := by decide +kernel
theorem dX8_serves_124 : decode cX8_serves 124 = .ok (.aload_n 0, 1) := by decide +kernel
theorem dX8_serves_125 : decode cX8_serves 125 = .ok (.iload_n 3, 1) := by decide +kernel
theorem dX8_serves_126 : decode cX8_serves 126 = .ok (.invokevirtual 70, 3) := by decide +kernel
theorem dX8_serves_129 : decode cX8_serves 129 = .ok (.iconst 2, 1) := by decide +kernel
theorem dX8_serves_130 : decode cX8_serves 130 = .ok (.idiv, 1) := by decide +kernel
theorem dX8_serves_131 : decode cX8_serves 131 = .ok (.iadd, 1) := by decide +kernel
theorem dX8_serves_132 : decode cX8_serves 132 = .ok (.istore 4, 2) := by decide +kernel
theorem dX8_serves_134 : decode cX8_serves 134 = .ok (.aload_n 0, 1) := by decide +kernel
theorem dX8_serves_135 : decode cX8_serves 135 = .ok (.getfield 7, 3) := by decide +kernel
theorem dX8_serves_138 : decode cX8_serves 138 = .ok (.bipush 54, 2) := by decide +kernel
theorem dX8_serves_140 : decode cX8_serves 140 = .ok (.dup2, 1) := by decide +kernel
theorem dX8_serves_141 : decode cX8_serves 141 = .ok (.iaload, 1) := by decide +kernel
theorem dX8_serves_142 : decode cX8_serves 142 = .ok (.iload_n 3, 1) := by decide +kernel
theorem dX8_serves_143 : decode cX8_serves 143 = .ok (.invokestatic 79, 3) := by decide +kernel
theorem dX8_serves_146 : decode cX8_serves 146 = .ok (.iadd, 1) := by decide +kernel
theorem dX8_serves_147 : decode cX8_serves 147 = .ok (.iastore, 1) := by decide +kernel
theorem dX8_serves_148 : decode cX8_serves 148 = .ok (.aload_n 0, 1) := by decide +kernel
theorem dX8_serves_149 : decode cX8_serves 149 = .ok (.getfield 7, 3) := by decide +kernel
theorem dX8_serves_152 : decode cX8_serves 152 = .ok (.bipush 57, 2) := by decide +kernel
theorem dX8_serves_154 : decode cX8_serves 154 = .ok (.dup2, 1) := by decide +kernel
theorem dX8_serves_155 : decode cX8_serves 155 = .ok (.iaload, 1) := by decide +kernel
theorem dX8_serves_156 : decode cX8_serves 156 = .ok (.iload 4, 2) := by decide +kernel
theorem dX8_serves_158 : decode cX8_serves 158 = .ok (.iadd, 1) := by decide +kernel
theorem dX8_serves_159 : decode cX8_serves 159 = .ok (.iastore, 1) := by decide +kernel
theorem dX8_serves_160 : decode cX8_serves 160 = .ok (.aload_n 0, 1) := by decide +kernel
theorem dX8_serves_161 : decode cX8_serves 161 = .ok (.getfield 7, 3) := by decide +kernel
theorem dX8_serves_164 : decode cX8_serves 164 = .ok (.bipush 58, 2) := by decide +kernel
theorem dX8_serves_166 : decode cX8_serves 166 = .ok (.dup2, 1) := by decide +kernel
theorem dX8_serves_167 : decode cX8_serves 167 = .ok (.iaload, 1) := by decide +kernel
theorem dX8_serves_168 : decode cX8_serves 168 = .ok (.iconst 1, 1) := by decide +kernel
theorem dX8_serves_169 : decode cX8_serves 169 = .ok (.iadd, 1) := by decide +kernel
theorem dX8_serves_170 : decode cX8_serves 170 = .ok (.iastore, 1) := by decide +kernel
theorem dX8_serves_171 : decode cX8_serves 171 = .ok (.aload_n 0, 1) := by decide +kernel
theorem dX8_serves_172 : decode cX8_serves 172 = .ok (.iload_n 2, 1) := by decide +kernel
theorem dX8_serves_173 : decode cX8_serves 173 = .ok (.invokevirtual 85, 3) := by decide +kernel
theorem dX8_serves_176 : decode cX8_serves 176 = .ok (.iload 4, 2) := by decide +kernel
theorem dX8_serves_178 : decode cX8_serves 178 = .ok (.ireturn, 1) := by decide +kernel
theorem dX8_serves_179 : decode cX8_serves 179 = .ok (.iinc 2 1, 3) := by decide +kernel
theorem dX8_serves_182 : decode cX8_serves 182 = .ok (.goto (-89), 3) := by decide +kernel
theorem dX8_serves_185 : decode cX8_serves 185 = .ok (.aload_n 0, 1) := by decide +kernel
theorem dX8_serves_186 : decode cX8_serves 186 = .ok (.getfield 7, 3) := by decide +kernel
theorem dX8_serves_189 : decode cX8_serves 189 = .ok (.bipush 59, 2) := by decide +kernel
theorem dX8_serves_191 : decode cX8_serves 191 = .ok (.dup2, 1) := by decide +kernel
theorem dX8_serves_192 : decode cX8_serves 192 = .ok (.iaload, 1) := by decide +kernel
theorem dX8_serves_193 : decode cX8_serves 193 = .ok (.iconst 1, 1) := by decide +kernel
theorem dX8_serves_194 : decode cX8_serves 194 = .ok (.iadd, 1) := by decide +kernel
theorem dX8_serves_195 : decode cX8_serves 195 = .ok (.iastore, 1) := by decide +kernel
theorem dX8_serves_196 : decode cX8_serves 196 = .ok (.iconst 0, 1) := by decide +kernel
theorem dX8_serves_197 : decode cX8_serves 197 = .ok (.ireturn, 1) := by decide +kernel
theorem dX8_jar_0 : decode cX8_jar 0 = .ok (.iload_n 1, 1) := by decide +kernel
theorem dX8_jar_1 : decode cX8_jar 1 = .ok (.invokestatic 89, 3) := by decide +kernel
theorem dX8_jar_4 : decode cX8_jar 4 = .ok (.ifCond .ne 6, 3) := by decide +kernel
theorem dX8_jar_7 : decode cX8_jar 7 = .ok (.bipush (-2), 2) := by decide +kernel
theorem dX8_jar_9 : decode cX8_jar 9 = .ok (.ireturn, 1) := by decide +kernel
theorem dX8_jar_10 : decode cX8_jar 10 = .ok (.aload_n 0, 1) := by decide +kernel
theorem dX8_jar_11 : decode cX8_jar 11 = .ok (.invokevirtual 93, 3) := by decide +kernel
theorem dX8_jar_14 : decode cX8_jar 14 = .ok (.aload_n 0, 1) := by decide +kernel
theorem dX8_jar_15 : decode cX8_jar 15 = .ok (.aload_n 0, 1) := by decide +kernel
theorem dX8_jar_16 : decode cX8_jar 16 = .ok (.iload_n 1, 1) := by decide +kernel
theorem dX8_jar_17 : decode cX8_jar 17 = .ok (.iload_n 1, 1) := by decide +kernel
theorem dX8_jar_18 : decode cX8_jar 18 = .ok (.invokestatic 79, 3) := by decide +kernel
theorem dX8_jar_21 : decode cX8_jar 21 = .ok (.aload_n 0, 1) := by decide +kernel
theorem dX8_jar_22 : decode cX8_jar 22 = .ok (.iload_n 1, 1) := by decide +kernel
theorem dX8_jar_23 : decode cX8_jar 23 = .ok (.invokevirtual 70, 3) := by decide +kernel
theorem dX8_jar_26 : decode cX8_jar 26 = .ok (.invokevirtual 96, 3) := by decide +kernel
theorem dX8_jar_29 : decode cX8_jar 29 = .ok (.invokevirtual 100, 3) := by decide +kernel
theorem dX8_jar_32 : decode cX8_jar 32 = .ok (.ireturn, 1) := by decide +kernel
theorem dX8_pour_0 : decode cX8_pour 0 = .ok (.aload_n 0, 1) := by decide +kernel
theorem dX8_pour_1 : decode cX8_pour 1 = .ok (.invokevirtual 93, 3) := by decide +kernel
theorem dX8_pour_4 : decode cX8_pour 4 = .ok (.aload_n 0, 1) := by decide +kernel
theorem dX8_pour_5 : decode cX8_pour 5 = .ok (.aload_n 0, 1) := by decide +kernel
theorem dX8_pour_6 : decode cX8_pour 6 = .ok (.iload_n 1, 1) := by decide +kernel
theorem dX8_pour_7 : decode cX8_pour 7 = .ok (.iload_n 2, 1) := by decide +kernel
theorem dX8_pour_8 : decode cX8_pour 8 = .ok (.invokevirtual 103, 3) := by decide +kernel
theorem dX8_pour_11 : decode cX8_pour 11 = .ok (.invokevirtual 100, 3) := by decide +kernel
theorem dX8_pour_14 : decode cX8_pour 14 = .ok (.ireturn, 1) := by decide +kernel
theorem dX8_more_0 : decode cX8_more 0 = .ok (.aload_n 0, 1) := by decide +kernel
theorem dX8_more_1 : decode cX8_more 1 = .ok (.invokevirtual 93, 3) := by decide +kernel
theorem dX8_more_4 : decode cX8_more 4 = .ok (.aload_n 0, 1) := by decide +kernel
theorem dX8_more_5 : decode cX8_more 5 = .ok (.aload_n 0, 1) := by decide +kernel
theorem dX8_more_6 : decode cX8_more 6 = .ok (.iload_n 1, 1) := by decide +kernel
theorem dX8_more_7 : decode cX8_more 7 = .ok (.invokevirtual 106, 3) := by decide +kernel
theorem dX8_more_10 : decode cX8_more 10 = .ok (.invokevirtual 100, 3) := by decide +kernel
theorem dX8_more_13 : decode cX8_more 13 = .ok (.ireturn, 1) := by decide +kernel
theorem dX8_throwAway_0 : decode cX8_throwAway 0 = .ok (.aload_n 0, 1) := by decide +kernel
theorem dX8_throwAway_1 : decode cX8_throwAway 1 = .ok (.iload_n 1, 1) := by decide +kernel
theorem dX8_throwAway_2 : decode cX8_throwAway 2 = .ok (.invokevirtual 82, 3) := by decide +kernel
theorem dX8_throwAway_5 : decode cX8_throwAway 5 = .ok (.istore_n 2, 1) := by decide +kernel
theorem dX8_throwAway_6 : decode cX8_throwAway 6 = .ok (.iload_n 2, 1) := by decide +kernel
theorem dX8_throwAway_7 : decode cX8_throwAway 7 = .ok (.bipush (-5), 2) := by decide +kernel
theorem dX8_throwAway_9 : decode cX8_throwAway 9 = .ok (.if_icmp .ne 5, 3) := by decide +kernel
theorem dX8_throwAway_12 : decode cX8_throwAway 12 = .ok (.iconst (-1), 1) := by decide +kernel
theorem dX8_throwAway_13 : decode cX8_throwAway 13 = .ok (.ireturn, 1) := by decide +kernel
theorem dX8_throwAway_14 : decode cX8_throwAway 14 = .ok (.aload_n 0, 1) := by decide +kernel
theorem dX8_throwAway_15 : decode cX8_throwAway 15 = .ok (.invokevirtual 93, 3) := by decide +kernel
theorem dX8_throwAway_18 : decode cX8_throwAway 18 = .ok (.aload_n 0, 1) := by decide +kernel
theorem dX8_throwAway_19 : decode cX8_throwAway 19 = .ok (.iload_n 2, 1) := by decide +kernel
theorem dX8_throwAway_20 : decode cX8_throwAway 20 = .ok (.invokevirtual 76, 3) := by decide +kernel
theorem dX8_throwAway_23 : decode cX8_throwAway 23 = .ok (.invokestatic 79, 3) := by decide +kernel
theorem dX8_throwAway_26 : decode cX8_throwAway 26 = .ok (.istore_n 3, 1) := by decide +kernel
theorem dX8_throwAway_27 : decode cX8_throwAway 27 = .ok (.aload_n 0, 1) := by decide +kernel
theorem dX8_throwAway_28 : decode cX8_throwAway 28 = .ok (.getfield 7, 3) := by decide +kernel
theorem dX8_throwAway_31 : decode cX8_throwAway 31 = .ok (.bipush 55, 2) := by decide +kernel
theorem dX8_throwAway_33 : decode cX8_throwAway 33 = .ok (.dup2, 1) := by decide +kernel
theorem dX8_throwAway_34 : decode cX8_throwAway 34 = .ok (.iaload, 1) := by decide +kernel
theorem dX8_throwAway_35 : decode cX8_throwAway 35 = .ok (.iload_n 3, 1) := by decide +kernel
theorem dX8_throwAway_36 : decode cX8_throwAway 36 = .ok (.iadd, 1) := by decide +kernel
theorem dX8_throwAway_37 : decode cX8_throwAway 37 = .ok (.iastore, 1) := by decide +kernel
theorem dX8_throwAway_38 : decode cX8_throwAway 38 = .ok (.aload_n 0, 1) := by decide +kernel
theorem dX8_throwAway_39 : decode cX8_throwAway 39 = .ok (.iload_n 2, 1) := by decide +kernel
theorem dX8_throwAway_40 : decode cX8_throwAway 40 = .ok (.invokevirtual 85, 3) := by decide +kernel
theorem dX8_throwAway_43 : decode cX8_throwAway 43 = .ok (.aload_n 0, 1) := by decide +kernel
theorem dX8_throwAway_44 : decode cX8_throwAway 44 = .ok (.iload_n 3, 1) := by decide +kernel
theorem dX8_throwAway_45 : decode cX8_throwAway 45 = .ok (.invokevirtual 100, 3) := by decide +kernel
theorem dX8_throwAway_48 : decode cX8_throwAway 48 = .ok (.ireturn, 1) := by decide +kernel
theorem dX8_rule_0 : decode cX8_rule 0 = .ok (.iload_n 1, 1) := by decide +kernel
theorem dX8_rule_1 : decode cX8_rule 1 = .ok (.invokestatic 89, 3) := by decide +kernel
theorem dX8_rule_4 : decode cX8_rule 4 = .ok (.ifCond .ne 6, 3) := by decide +kernel
theorem dX8_rule_7 : decode cX8_rule 7 = .ok (.bipush (-2), 2) := by decide +kernel
theorem dX8_rule_9 : decode cX8_rule 9 = .ok (.ireturn, 1) := by decide +kernel
theorem dX8_rule_10 : decode cX8_rule 10 = .ok (.aload_n 0, 1) := by decide +kernel
theorem dX8_rule_11 : decode cX8_rule 11 = .ok (.invokevirtual 93, 3) := by decide +kernel
theorem dX8_rule_14 : decode cX8_rule 14 = .ok (.aload_n 0, 1) := by decide +kernel
theorem dX8_rule_15 : decode cX8_rule 15 = .ok (.aload_n 0, 1) := by decide +kernel
theorem dX8_rule_16 : decode cX8_rule 16 = .ok (.iload_n 1, 1) := by decide +kernel
theorem dX8_rule_17 : decode cX8_rule 17 = .ok (.invokevirtual 109, 3) := by decide +kernel
theorem dX8_rule_20 : decode cX8_rule 20 = .ok (.invokevirtual 100, 3) := by decide +kernel
theorem dX8_rule_23 : decode cX8_rule 23 = .ok (.ifCond .ge 8, 3) := by decide +kernel
theorem dX8_rule_26 : decode cX8_rule 26 = .ok (.bipush (-3), 2) := by decide +kernel
theorem dX8_rule_28 : decode cX8_rule 28 = .ok (.goto 7, 3) := by decide +kernel
theorem dX8_rule_31 : decode cX8_rule 31 = .ok (.aload_n 0, 1) := by decide +kernel
theorem dX8_rule_32 : decode cX8_rule 32 = .ok (.invokevirtual 112, 3) := by decide +kernel
theorem dX8_rule_35 : decode cX8_rule 35 = .ok (.ireturn, 1) := by decide +kernel
theorem dX8_drop_0 : decode cX8_drop 0 = .ok (.aload_n 0, 1) := by decide +kernel
theorem dX8_drop_1 : decode cX8_drop 1 = .ok (.invokevirtual 93, 3) := by decide +kernel
theorem dX8_drop_4 : decode cX8_drop 4 = .ok (.aload_n 0, 1) := by decide +kernel
theorem dX8_drop_5 : decode cX8_drop 5 = .ok (.aload_n 0, 1) := by decide +kernel
theorem dX8_drop_6 : decode cX8_drop 6 = .ok (.iload_n 1, 1) := by decide +kernel
theorem dX8_drop_7 : decode cX8_drop 7 = .ok (.invokevirtual 115, 3) := by decide +kernel
theorem dX8_drop_10 : decode cX8_drop 10 = .ok (.invokevirtual 100, 3) := by decide +kernel
theorem dX8_drop_13 : decode cX8_drop 13 = .ok (.ifCond .ge 7, 3) := by decide +kernel
theorem dX8_drop_16 : decode cX8_drop 16 = .ok (.iconst (-1), 1) := by decide +kernel
theorem dX8_drop_17 : decode cX8_drop 17 = .ok (.goto 7, 3) := by decide +kernel
theorem dX8_drop_20 : decode cX8_drop 20 = .ok (.aload_n 0, 1) := by decide +kernel
theorem dX8_drop_21 : decode cX8_drop 21 = .ok (.invokevirtual 112, 3) := by decide +kernel
theorem dX8_drop_24 : decode cX8_drop 24 = .ok (.ireturn, 1) := by decide +kernel
theorem dX8_price_0 : decode cX8_price 0 = .ok (.iload_n 1, 1) := by decide +kernel
theorem dX8_price_1 : decode cX8_price 1 = .ok (.iconst 0, 1) := by decide +kernel
theorem dX8_price_2 : decode cX8_price 2 = .ok (.bipush 7, 2) := by decide +kernel
theorem dX8_price_4 : decode cX8_price 4 = .ok (.invokestatic 41, 3) := by decide +kernel
theorem dX8_price_7 : decode cX8_price 7 = .ok (.ifCond .ne 5, 3) := by decide +kernel
theorem dX8_price_10 : decode cX8_price 10 = .ok (.iconst (-1), 1) := by decide +kernel
theorem dX8_price_11 : decode cX8_price 11 = .ok (.ireturn, 1) := by decide +kernel
theorem dX8_price_12 : decode cX8_price 12 = .ok (.iload_n 2, 1) := by decide +kernel
theorem dX8_price_13 : decode cX8_price 13 = .ok (.iconst 0, 1) := by decide +kernel
theorem dX8_price_14 : decode cX8_price 14 = .ok (.bipush 99, 2) := by decide +kernel
theorem dX8_price_16 : decode cX8_price 16 = .ok (.invokestatic 41, 3) := by decide +kernel
theorem dX8_price_19 : decode cX8_price 19 = .ok (.ifCond .ne 6, 3) := by decide +kernel
theorem dX8_price_22 : decode cX8_price 22 = .ok (.bipush (-2), 2) := by decide +kernel
theorem dX8_price_24 : decode cX8_price 24 = .ok (.ireturn, 1) := by decide +kernel
theorem dX8_price_25 : decode cX8_price 25 = .ok (.aload_n 0, 1) := by decide +kernel
theorem dX8_price_26 : decode cX8_price 26 = .ok (.getfield 7, 3) := by decide +kernel
theorem dX8_price_29 : decode cX8_price 29 = .ok (.iload_n 1, 1) := by decide +kernel
theorem dX8_price_30 : decode cX8_price 30 = .ok (.iaload, 1) := by decide +kernel
theorem dX8_price_31 : decode cX8_price 31 = .ok (.istore_n 3, 1) := by decide +kernel
theorem dX8_price_32 : decode cX8_price 32 = .ok (.iload_n 3, 1) := by decide +kernel
theorem dX8_price_33 : decode cX8_price 33 = .ok (.iload_n 2, 1) := by decide +kernel
theorem dX8_price_34 : decode cX8_price 34 = .ok (.if_icmp .ne 6, 3) := by decide +kernel
theorem dX8_price_37 : decode cX8_price 37 = .ok (.bipush (-5), 2) := by decide +kernel
theorem dX8_price_39 : decode cX8_price 39 = .ok (.ireturn, 1) := by decide +kernel
theorem dX8_price_40 : decode cX8_price 40 = .ok (.aload_n 0, 1) := by decide +kernel
theorem dX8_price_41 : decode cX8_price 41 = .ok (.invokevirtual 93, 3) := by decide +kernel
theorem dX8_price_44 : decode cX8_price 44 = .ok (.aload_n 0, 1) := by decide +kernel
theorem dX8_price_45 : decode cX8_price 45 = .ok (.getfield 7, 3) := by decide +kernel
theorem dX8_price_48 : decode cX8_price 48 = .ok (.iload_n 1, 1) := by decide +kernel
theorem dX8_price_49 : decode cX8_price 49 = .ok (.iload_n 2, 1) := by decide +kernel
theorem dX8_price_50 : decode cX8_price 50 = .ok (.iastore, 1) := by decide +kernel
theorem dX8_price_51 : decode cX8_price 51 = .ok (.aload_n 0, 1) := by decide +kernel
theorem dX8_price_52 : decode cX8_price 52 = .ok (.iload_n 3, 1) := by decide +kernel
theorem dX8_price_53 : decode cX8_price 53 = .ok (.invokevirtual 100, 3) := by decide +kernel
theorem dX8_price_56 : decode cX8_price 56 = .ok (.ireturn, 1) := by decide +kernel
theorem dX8_want_0 : decode cX8_want 0 = .ok (.iload_n 1, 1) := by decide +kernel
theorem dX8_want_1 : decode cX8_want 1 = .ok (.invokestatic 89, 3) := by decide +kernel
theorem dX8_want_4 : decode cX8_want 4 = .ok (.ifCond .ne 6, 3) := by decide +kernel
theorem dX8_want_7 : decode cX8_want 7 = .ok (.bipush (-2), 2) := by decide +kernel
theorem dX8_want_9 : decode cX8_want 9 = .ok (.ireturn, 1) := by decide +kernel
theorem dX8_want_10 : decode cX8_want 10 = .ok (.aload_n 0, 1) := by decide +kernel
theorem dX8_want_11 : decode cX8_want 11 = .ok (.invokevirtual 93, 3) := by decide +kernel
theorem dX8_want_14 : decode cX8_want 14 = .ok (.aload_n 0, 1) := by decide +kernel
theorem dX8_want_15 : decode cX8_want 15 = .ok (.aload_n 0, 1) := by decide +kernel
theorem dX8_want_16 : decode cX8_want 16 = .ok (.iload_n 1, 1) := by decide +kernel
theorem dX8_want_17 : decode cX8_want 17 = .ok (.invokevirtual 118, 3) := by decide +kernel
theorem dX8_want_20 : decode cX8_want 20 = .ok (.invokevirtual 100, 3) := by decide +kernel
theorem dX8_want_23 : decode cX8_want 23 = .ok (.ireturn, 1) := by decide +kernel
theorem dX8_serve_0 : decode cX8_serve 0 = .ok (.aload_n 0, 1) := by decide +kernel
theorem dX8_serve_1 : decode cX8_serve 1 = .ok (.invokevirtual 64, 3) := by decide +kernel
theorem dX8_serve_4 : decode cX8_serve 4 = .ok (.aload_n 0, 1) := by decide +kernel
theorem dX8_serve_5 : decode cX8_serve 5 = .ok (.invokevirtual 93, 3) := by decide +kernel
theorem dX8_serve_8 : decode cX8_serve 8 = .ok (.aload_n 0, 1) := by decide +kernel
theorem dX8_serve_9 : decode cX8_serve 9 = .ok (.aload_n 0, 1) := by decide +kernel
theorem dX8_serve_10 : decode cX8_serve 10 = .ok (.invokevirtual 121, 3) := by decide +kernel
theorem dX8_serve_13 : decode cX8_serve 13 = .ok (.invokevirtual 100, 3) := by decide +kernel
theorem dX8_serve_16 : decode cX8_serve 16 = .ok (.ireturn, 1) := by decide +kernel
theorem dX8_type_0 : decode cX8_type 0 = .ok (.aload_n 0, 1) := by decide +kernel
theorem dX8_type_1 : decode cX8_type 1 = .ok (.getfield 124, 3) := by decide +kernel
theorem dX8_type_4 : decode cX8_type 4 = .ok (.bipush 60, 2) := by decide +kernel
theorem dX8_type_6 : decode cX8_type 6 = .ok (.if_icmp .ne 6, 3) := by decide +kernel
theorem dX8_type_9 : decode cX8_type 9 = .ok (.bipush (-3), 2) := by decide +kernel
theorem dX8_type_11 : decode cX8_type 11 = .ok (.ireturn, 1) := by decide +kernel
theorem dX8_type_12 : decode cX8_type 12 = .ok (.aload_n 0, 1) := by decide +kernel
theorem dX8_type_13 : decode cX8_type 13 = .ok (.getfield 22, 3) := by decide +kernel
theorem dX8_type_16 : decode cX8_type 16 = .ok (.aload_n 0, 1) := by decide +kernel
theorem dX8_type_17 : decode cX8_type 17 = .ok (.getfield 124, 3) := by decide +kernel
theorem dX8_type_20 : decode cX8_type 20 = .ok (.iload_n 1, 1) := by decide +kernel
theorem dX8_type_21 : decode cX8_type 21 = .ok (.iastore, 1) := by decide +kernel
theorem dX8_type_22 : decode cX8_type 22 = .ok (.aload_n 0, 1) := by decide +kernel
theorem dX8_type_23 : decode cX8_type 23 = .ok (.dup, 1) := by decide +kernel
theorem dX8_type_24 : decode cX8_type 24 = .ok (.getfield 124, 3) := by decide +kernel
theorem dX8_type_27 : decode cX8_type 27 = .ok (.iconst 1, 1) := by decide +kernel
theorem dX8_type_28 : decode cX8_type 28 = .ok (.iadd, 1) := by decide +kernel
theorem dX8_type_29 : decode cX8_type 29 = .ok (.putfield 124, 3) := by decide +kernel
theorem dX8_type_32 : decode cX8_type 32 = .ok (.aload_n 0, 1) := by decide +kernel
theorem dX8_type_33 : decode cX8_type 33 = .ok (.getfield 124, 3) := by decide +kernel
theorem dX8_type_36 : decode cX8_type 36 = .ok (.ireturn, 1) := by decide +kernel
theorem dX8_clearText_0 : decode cX8_clearText 0 = .ok (.aload_n 0, 1) := by decide +kernel
theorem dX8_clearText_1 : decode cX8_clearText 1 = .ok (.getfield 124, 3) := by decide +kernel
theorem dX8_clearText_4 : decode cX8_clearText 4 = .ok (.istore_n 1, 1) := by decide +kernel
theorem dX8_clearText_5 : decode cX8_clearText 5 = .ok (.aload_n 0, 1) := by decide +kernel
theorem dX8_clearText_6 : decode cX8_clearText 6 = .ok (.iconst 0, 1) := by decide +kernel
theorem dX8_clearText_7 : decode cX8_clearText 7 = .ok (.putfield 124, 3) := by decide +kernel
theorem dX8_clearText_10 : decode cX8_clearText 10 = .ok (.iload_n 1, 1) := by decide +kernel
theorem dX8_clearText_11 : decode cX8_clearText 11 = .ok (.ireturn, 1) := by decide +kernel
theorem dX8_sign_0 : decode cX8_sign 0 = .ok (.aload_n 0, 1) := by decide +kernel
theorem dX8_sign_1 : decode cX8_sign 1 = .ok (.getfield 127, 3) := by decide +kernel
theorem dX8_sign_4 : decode cX8_sign 4 = .ok (.aload_n 0, 1) := by decide +kernel
theorem dX8_sign_5 : decode cX8_sign 5 = .ok (.getfield 124, 3) := by decide +kernel
theorem dX8_sign_8 : decode cX8_sign 8 = .ok (.if_icmp .ge 15, 3) := by decide +kernel
theorem dX8_sign_11 : decode cX8_sign 11 = .ok (.aload_n 0, 1) := by decide +kernel
theorem dX8_sign_12 : decode cX8_sign 12 = .ok (.getfield 22, 3) := by decide +kernel
theorem dX8_sign_15 : decode cX8_sign 15 = .ok (.aload_n 0, 1) := by decide +kernel
theorem dX8_sign_16 : decode cX8_sign 16 = .ok (.getfield 127, 3) := by decide +kernel
theorem dX8_sign_19 : decode cX8_sign 19 = .ok (.iaload, 1) := by decide +kernel
theorem dX8_sign_20 : decode cX8_sign 20 = .ok (.goto 4, 3) := by decide +kernel
theorem dX8_sign_23 : decode cX8_sign 23 = .ok (.iconst 0, 1) := by decide +kernel
theorem dX8_sign_24 : decode cX8_sign 24 = .ok (.istore_n 3, 1) := by decide +kernel
theorem dX8_sign_25 : decode cX8_sign 25 = .ok (.aload_n 0, 1) := by decide +kernel
theorem dX8_sign_26 : decode cX8_sign 26 = .ok (.aload_n 0, 1) := by decide +kernel
theorem dX8_sign_27 : decode cX8_sign 27 = .ok (.getfield 130, 3) := by decide +kernel
theorem dX8_sign_30 : decode cX8_sign 30 = .ok (.ifCond .ne 23, 3) := by decide +kernel
theorem dX8_sign_33 : decode cX8_sign 33 = .ok (.aload_n 0, 1) := by decide +kernel
theorem dX8_sign_34 : decode cX8_sign 34 = .ok (.getfield 127, 3) := by decide +kernel
theorem dX8_sign_37 : decode cX8_sign 37 = .ok (.aload_n 0, 1) := by decide +kernel
theorem dX8_sign_38 : decode cX8_sign 38 = .ok (.getfield 124, 3) := by decide +kernel
theorem dX8_sign_41 : decode cX8_sign 41 = .ok (.if_icmp .ge 12, 3) := by decide +kernel
theorem dX8_sign_44 : decode cX8_sign 44 = .ok (.iload_n 3, 1) := by decide +kernel
theorem dX8_sign_45 : decode cX8_sign 45 = .ok (.iload_n 1, 1) := by decide +kernel
theorem dX8_sign_46 : decode cX8_sign 46 = .ok (.iload_n 2, 1) := by decide +kernel
theorem dX8_sign_47 : decode cX8_sign 47 = .ok (.invokestatic 41, 3) := by decide +kernel
theorem dX8_sign_50 : decode cX8_sign 50 = .ok (.ifCond .ne 7, 3) := by decide +kernel
theorem dX8_sign_53 : decode cX8_sign 53 = .ok (.iconst 1, 1) := by decide +kernel
theorem dX8_sign_54 : decode cX8_sign 54 = .ok (.goto 4, 3) := by decide +kernel
theorem dX8_sign_57 : decode cX8_sign 57 = .ok (.iconst 0, 1) := by decide +kernel
theorem dX8_sign_58 : decode cX8_sign 58 = .ok (.putfield 130, 3) := by decide +kernel
theorem dX8_sign_61 : decode cX8_sign 61 = .ok (.aload_n 0, 1) := by decide +kernel
theorem dX8_sign_62 : decode cX8_sign 62 = .ok (.dup, 1) := by decide +kernel
theorem dX8_sign_63 : decode cX8_sign 63 = .ok (.getfield 127, 3) := by decide +kernel
theorem dX8_sign_66 : decode cX8_sign 66 = .ok (.aload_n 0, 1) := by decide +kernel
theorem dX8_sign_67 : decode cX8_sign 67 = .ok (.getfield 130, 3) := by decide +kernel
theorem dX8_sign_70 : decode cX8_sign 70 = .ok (.ifCond .eq 7, 3) := by decide +kernel
theorem dX8_sign_73 : decode cX8_sign 73 = .ok (.iconst 0, 1) := by decide +kernel
theorem dX8_sign_74 : decode cX8_sign 74 = .ok (.goto 4, 3) := by decide +kernel
theorem dX8_sign_77 : decode cX8_sign 77 = .ok (.iconst 1, 1) := by decide +kernel
theorem dX8_sign_78 : decode cX8_sign 78 = .ok (.iadd, 1) := by decide +kernel
theorem dX8_sign_79 : decode cX8_sign 79 = .ok (.putfield 127, 3) := by decide +kernel
theorem dX8_sign_82 : decode cX8_sign 82 = .ok (.iload_n 3, 1) := by decide +kernel
theorem dX8_sign_83 : decode cX8_sign 83 = .ok (.ireturn, 1) := by decide +kernel
theorem dX8_isNext_0 : decode cX8_isNext 0 = .ok (.aload_n 0, 1) := by decide +kernel
theorem dX8_isNext_1 : decode cX8_isNext 1 = .ok (.getfield 130, 3) := by decide +kernel
theorem dX8_isNext_4 : decode cX8_isNext 4 = .ok (.ifCond .ne 35, 3) := by decide +kernel
theorem dX8_isNext_7 : decode cX8_isNext 7 = .ok (.aload_n 0, 1) := by decide +kernel
theorem dX8_isNext_8 : decode cX8_isNext 8 = .ok (.getfield 127, 3) := by decide +kernel
theorem dX8_isNext_11 : decode cX8_isNext 11 = .ok (.aload_n 0, 1) := by decide +kernel
theorem dX8_isNext_12 : decode cX8_isNext 12 = .ok (.getfield 124, 3) := by decide +kernel
theorem dX8_isNext_15 : decode cX8_isNext 15 = .ok (.if_icmp .ge 24, 3) := by decide +kernel
theorem dX8_isNext_18 : decode cX8_isNext 18 = .ok (.aload_n 0, 1) := by decide +kernel
theorem dX8_isNext_19 : decode cX8_isNext 19 = .ok (.getfield 22, 3) := by decide +kernel
theorem dX8_isNext_22 : decode cX8_isNext 22 = .ok (.aload_n 0, 1) := by decide +kernel
theorem dX8_isNext_23 : decode cX8_isNext 23 = .ok (.getfield 127, 3) := by decide +kernel
theorem dX8_isNext_26 : decode cX8_isNext 26 = .ok (.iaload, 1) := by decide +kernel
theorem dX8_isNext_27 : decode cX8_isNext 27 = .ok (.iload_n 1, 1) := by decide +kernel
theorem dX8_isNext_28 : decode cX8_isNext 28 = .ok (.iload_n 2, 1) := by decide +kernel
theorem dX8_isNext_29 : decode cX8_isNext 29 = .ok (.invokestatic 41, 3) := by decide +kernel
theorem dX8_isNext_32 : decode cX8_isNext 32 = .ok (.ifCond .eq 7, 3) := by decide +kernel
theorem dX8_isNext_35 : decode cX8_isNext 35 = .ok (.iconst 1, 1) := by decide +kernel
theorem dX8_isNext_36 : decode cX8_isNext 36 = .ok (.goto 4, 3) := by decide +kernel
theorem dX8_isNext_39 : decode cX8_isNext 39 = .ok (.iconst 0, 1) := by decide +kernel
theorem dX8_isNext_40 : decode cX8_isNext 40 = .ok (.ireturn, 1) := by decide +kernel
theorem dX8_signs_0 : decode cX8_signs 0 = .ok (.aload_n 0, 1) := by decide +kernel
theorem dX8_signs_1 : decode cX8_signs 1 = .ok (.iload_n 1, 1) := by decide +kernel
theorem dX8_signs_2 : decode cX8_signs 2 = .ok (.iload_n 1, 1) := by decide +kernel
theorem dX8_signs_3 : decode cX8_signs 3 = .ok (.invokevirtual 133, 3) := by decide +kernel
theorem dX8_signs_6 : decode cX8_signs 6 = .ok (.istore 5, 2) := by decide +kernel
theorem dX8_signs_8 : decode cX8_signs 8 = .ok (.aload_n 0, 1) := by decide +kernel
theorem dX8_signs_9 : decode cX8_signs 9 = .ok (.iload_n 2, 1) := by decide +kernel
theorem dX8_signs_10 : decode cX8_signs 10 = .ok (.iload_n 2, 1) := by decide +kernel
theorem dX8_signs_11 : decode cX8_signs 11 = .ok (.invokevirtual 133, 3) := by decide +kernel
theorem dX8_signs_14 : decode cX8_signs 14 = .ok (.istore 6, 2) := by decide +kernel
theorem dX8_signs_16 : decode cX8_signs 16 = .ok (.iload_n 3, 1) := by decide +kernel
theorem dX8_signs_17 : decode cX8_signs 17 = .ok (.ifCond .ne 7, 3) := by decide +kernel
theorem dX8_signs_20 : decode cX8_signs 20 = .ok (.iconst 0, 1) := by decide +kernel
theorem dX8_signs_21 : decode cX8_signs 21 = .ok (.goto 9, 3) := by decide +kernel
theorem dX8_signs_24 : decode cX8_signs 24 = .ok (.aload_n 0, 1) := by decide +kernel
theorem dX8_signs_25 : decode cX8_signs 25 = .ok (.iload_n 3, 1) := by decide +kernel
theorem dX8_signs_26 : decode cX8_signs 26 = .ok (.iload_n 3, 1) := by decide +kernel
theorem dX8_signs_27 : decode cX8_signs 27 = .ok (.invokevirtual 133, 3) := by decide +kernel
theorem dX8_signs_30 : decode cX8_signs 30 = .ok (.istore 7, 2) := by decide +kernel
theorem dX8_signs_32 : decode cX8_signs 32 = .ok (.iload 4, 2) := by decide +kernel
theorem dX8_signs_34 : decode cX8_signs 34 = .ok (.ifCond .ne 7, 3) := by decide +kernel
theorem dX8_signs_37 : decode cX8_signs 37 = .ok (.iconst 0, 1) := by decide +kernel
theorem dX8_signs_38 : decode cX8_signs 38 = .ok (.goto 11, 3) := by decide +kernel
theorem dX8_signs_41 : decode cX8_signs 41 = .ok (.aload_n 0, 1) := by decide +kernel
theorem dX8_signs_42 : decode cX8_signs 42 = .ok (.iload 4, 2) := by decide +kernel
theorem dX8_signs_44 : decode cX8_signs 44 = .ok (.iload 4, 2) := by decide +kernel
theorem dX8_signs_46 : decode cX8_signs 46 = .ok (.invokevirtual 133, 3) := by decide +kernel
theorem dX8_signs_49 : decode cX8_signs 49 = .ok (.istore 8, 2) := by decide +kernel
theorem dX8_signs_51 : decode cX8_signs 51 = .ok (.aload_n 0, 1) := by decide +kernel
theorem dX8_signs_52 : decode cX8_signs 52 = .ok (.bipush 61, 2) := by decide +kernel
theorem dX8_signs_54 : decode cX8_signs 54 = .ok (.bipush 61, 2) := by decide +kernel
theorem dX8_signs_56 : decode cX8_signs 56 = .ok (.invokevirtual 133, 3) := by decide +kernel
theorem dX8_signs_59 : decode cX8_signs 59 = .ok (.istore 9, 2) := by decide +kernel
theorem dX8_signs_61 : decode cX8_signs 61 = .ok (.return_, 1) := by decide +kernel
theorem dX8_mix_0 : decode cX8_mix 0 = .ok (.iconst 0, 1) := by decide +kernel
theorem dX8_mix_1 : decode cX8_mix 1 = .ok (.istore_n 1, 1) := by decide +kernel
theorem dX8_mix_2 : decode cX8_mix 2 = .ok (.aload_n 0, 1) := by decide +kernel
theorem dX8_mix_3 : decode cX8_mix 3 = .ok (.iconst 0, 1) := by decide +kernel
theorem dX8_mix_4 : decode cX8_mix 4 = .ok (.putfield 136, 3) := by decide +kernel
theorem dX8_mix_7 : decode cX8_mix 7 = .ok (.aload_n 0, 1) := by decide +kernel
theorem dX8_mix_8 : decode cX8_mix 8 = .ok (.iconst 0, 1) := by decide +kernel
theorem dX8_mix_9 : decode cX8_mix 9 = .ok (.putfield 139, 3) := by decide +kernel
theorem dX8_mix_12 : decode cX8_mix 12 = .ok (.iconst 1, 1) := by decide +kernel
theorem dX8_mix_13 : decode cX8_mix 13 = .ok (.istore_n 2, 1) := by decide +kernel
theorem dX8_mix_14 : decode cX8_mix 14 = .ok (.iload_n 2, 1) := by decide +kernel
theorem dX8_mix_15 : decode cX8_mix 15 = .ok (.ifCond .eq 130, 3) := by decide +kernel
theorem dX8_mix_18 : decode cX8_mix 18 = .ok (.aload_n 0, 1) := by decide +kernel
theorem dX8_mix_19 : decode cX8_mix 19 = .ok (.bipush 97, 2) := by decide +kernel
theorem dX8_mix_21 : decode cX8_mix 21 = .ok (.bipush 104, 2) := by decide +kernel
theorem dX8_mix_23 : decode cX8_mix 23 = .ok (.invokevirtual 133, 3) := by decide +kernel
theorem dX8_mix_26 : decode cX8_mix 26 = .ok (.bipush 97, 2) := by decide +kernel
theorem dX8_mix_28 : decode cX8_mix 28 = .ok (.isub, 1) := by decide +kernel
theorem dX8_mix_29 : decode cX8_mix 29 = .ok (.istore_n 3, 1) := by decide +kernel
theorem dX8_mix_30 : decode cX8_mix 30 = .ok (.iconst 1, 1) := by decide +kernel
theorem dX8_mix_31 : decode cX8_mix 31 = .ok (.istore 4, 2) := by decide +kernel
theorem dX8_mix_33 : decode cX8_mix 33 = .ok (.aload_n 0, 1) := by decide +kernel
theorem dX8_mix_34 : decode cX8_mix 34 = .ok (.bipush 49, 2) := by decide +kernel
theorem dX8_mix_36 : decode cX8_mix 36 = .ok (.bipush 57, 2) := by decide +kernel
theorem dX8_mix_38 : decode cX8_mix 38 = .ok (.invokevirtual 142, 3) := by decide +kernel
theorem dX8_mix_41 : decode cX8_mix 41 = .ok (.ifCond .eq 27, 3) := by decide +kernel
theorem dX8_mix_44 : decode cX8_mix 44 = .ok (.aload_n 0, 1) := by decide +kernel
theorem dX8_mix_45 : decode cX8_mix 45 = .ok (.getfield 22, 3) := by decide +kernel
theorem dX8_mix_48 : decode cX8_mix 48 = .ok (.aload_n 0, 1) := by decide +kernel
theorem dX8_mix_49 : decode cX8_mix 49 = .ok (.getfield 127, 3) := by decide +kernel
theorem dX8_mix_52 : decode cX8_mix 52 = .ok (.iaload, 1) := by decide +kernel
theorem dX8_mix_53 : decode cX8_mix 53 = .ok (.bipush 48, 2) := by decide +kernel
theorem dX8_mix_55 : decode cX8_mix 55 = .ok (.isub, 1) := by decide +kernel
theorem dX8_mix_56 : decode cX8_mix 56 = .ok (.istore 4, 2) := by decide +kernel
theorem dX8_mix_58 : decode cX8_mix 58 = .ok (.aload_n 0, 1) := by decide +kernel
theorem dX8_mix_59 : decode cX8_mix 59 = .ok (.dup, 1) := by decide +kernel
theorem dX8_mix_60 : decode cX8_mix 60 = .ok (.getfield 127, 3) := by decide +kernel
theorem dX8_mix_63 : decode cX8_mix 63 = .ok (.iconst 1, 1) := by decide +kernel
theorem dX8_mix_64 : decode cX8_mix 64 = .ok (.iadd, 1) := by decide +kernel
theorem dX8_mix_65 : decode cX8_mix 65 = .ok (.putfield 127, 3) := by decide +kernel
theorem dX8_mix_68 : decode cX8_mix 68 = .ok (.aload_n 0, 1) := by decide +kernel
theorem dX8_mix_69 : decode cX8_mix 69 = .ok (.getfield 130, 3) := by decide +kernel
theorem dX8_mix_72 : decode cX8_mix 72 = .ok (.ifCond .ne 61, 3) := by decide +kernel
theorem dX8_mix_75 : decode cX8_mix 75 = .ok (.iload_n 3, 1) := by decide +kernel
theorem dX8_mix_76 : decode cX8_mix 76 = .ok (.invokestatic 146, 3) := by decide +kernel
theorem dX8_mix_79 : decode cX8_mix 79 = .ok (.istore 5, 2) := by decide +kernel
theorem dX8_mix_81 : decode cX8_mix 81 = .ok (.iconst 0, 1) := by decide +kernel
theorem dX8_mix_82 : decode cX8_mix 82 = .ok (.istore 6, 2) := by decide +kernel
theorem dX8_mix_84 : decode cX8_mix 84 = .ok (.iload 6, 2) := by decide +kernel
theorem dX8_mix_86 : decode cX8_mix 86 = .ok (.iload 4, 2) := by decide +kernel
theorem dX8_mix_88 : decode cX8_mix 88 = .ok (.if_icmp .ge 16, 3) := by decide +kernel
theorem dX8_mix_91 : decode cX8_mix 91 = .ok (.iload_n 1, 1) := by decide +kernel
theorem dX8_mix_92 : decode cX8_mix 92 = .ok (.iload 5, 2) := by decide +kernel
theorem dX8_mix_94 : decode cX8_mix 94 = .ok (.invokestatic 53, 3) := by decide +kernel
theorem dX8_mix_97 : decode cX8_mix 97 = .ok (.istore_n 1, 1) := by decide +kernel
theorem dX8_mix_98 : decode cX8_mix 98 = .ok (.iinc 6 1, 3) := by decide +kernel
theorem dX8_mix_101 : decode cX8_mix 101 = .ok (.goto (-17), 3) := by decide +kernel
theorem dX8_mix_104 : decode cX8_mix 104 = .ok (.aload_n 0, 1) := by decide +kernel
theorem dX8_mix_105 : decode cX8_mix 105 = .ok (.dup, 1) := by decide +kernel
theorem dX8_mix_106 : decode cX8_mix 106 = .ok (.getfield 136, 3) := by decide +kernel
theorem dX8_mix_109 : decode cX8_mix 109 = .ok (.iload 4, 2) := by decide +kernel
theorem dX8_mix_111 : decode cX8_mix 111 = .ok (.iadd, 1) := by decide +kernel
theorem dX8_mix_112 : decode cX8_mix 112 = .ok (.putfield 136, 3) := by decide +kernel
theorem dX8_mix_115 : decode cX8_mix 115 = .ok (.aload_n 0, 1) := by decide +kernel
theorem dX8_mix_116 : decode cX8_mix 116 = .ok (.dup, 1) := by decide +kernel
theorem dX8_mix_117 : decode cX8_mix 117 = .ok (.getfield 139, 3) := by decide +kernel
theorem dX8_mix_120 : decode cX8_mix 120 = .ok (.iload 4, 2) := by decide +kernel
theorem dX8_mix_122 : decode cX8_mix 122 = .ok (.aload_n 0, 1) := by decide +kernel
theorem dX8_mix_123 : decode cX8_mix 123 = .ok (.getfield 7, 3) := by decide +kernel
theorem dX8_mix_126 : decode cX8_mix 126 = .ok (.iload_n 3, 1) := by decide +kernel
theorem dX8_mix_127 : decode cX8_mix 127 = .ok (.iaload, 1) := by decide +kernel
theorem dX8_mix_128 : decode cX8_mix 128 = .ok (.imul, 1) := by decide +kernel
theorem dX8_mix_129 : decode cX8_mix 129 = .ok (.iadd, 1) := by decide +kernel
theorem dX8_mix_130 : decode cX8_mix 130 = .ok (.putfield 139, 3) := by decide +kernel
theorem dX8_mix_133 : decode cX8_mix 133 = .ok (.aload_n 0, 1) := by decide +kernel
theorem dX8_mix_134 : decode cX8_mix 134 = .ok (.bipush 97, 2) := by decide +kernel
theorem dX8_mix_136 : decode cX8_mix 136 = .ok (.bipush 104, 2) := by decide +kernel
theorem dX8_mix_138 : decode cX8_mix 138 = .ok (.invokevirtual 142, 3) := by decide +kernel
theorem dX8_mix_141 : decode cX8_mix 141 = .ok (.istore_n 2, 1) := by decide +kernel
theorem dX8_mix_142 : decode cX8_mix 142 = .ok (.goto (-128), 3) := by decide +kernel
theorem dX8_mix_145 : decode cX8_mix 145 = .ok (.iload_n 1, 1) := by decide +kernel
theorem dX8_mix_146 : decode cX8_mix 146 = .ok (.ireturn, 1) := by decide +kernel
theorem dX8_number_0 : decode cX8_number 0 = .ok (.aload_n 0, 1) := by decide +kernel
theorem dX8_number_1 : decode cX8_number 1 = .ok (.bipush 48, 2) := by decide +kernel
theorem dX8_number_3 : decode cX8_number 3 = .ok (.bipush 57, 2) := by decide +kernel
theorem dX8_number_5 : decode cX8_number 5 = .ok (.invokevirtual 133, 3) := by decide +kernel
theorem dX8_number_8 : decode cX8_number 8 = .ok (.bipush 48, 2) := by decide +kernel
theorem dX8_number_10 : decode cX8_number 10 = .ok (.isub, 1) := by decide +kernel
theorem dX8_number_11 : decode cX8_number 11 = .ok (.istore_n 1, 1) := by decide +kernel
theorem dX8_number_12 : decode cX8_number 12 = .ok (.iload_n 1, 1) := by decide +kernel
theorem dX8_number_13 : decode cX8_number 13 = .ok (.ifCond .le 68, 3) := by decide +kernel
theorem dX8_number_16 : decode cX8_number 16 = .ok (.aload_n 0, 1) := by decide +kernel
theorem dX8_number_17 : decode cX8_number 17 = .ok (.bipush 48, 2) := by decide +kernel
theorem dX8_number_19 : decode cX8_number 19 = .ok (.bipush 57, 2) := by decide +kernel
theorem dX8_number_21 : decode cX8_number 21 = .ok (.invokevirtual 142, 3) := by decide +kernel
theorem dX8_number_24 : decode cX8_number 24 = .ok (.ifCond .eq 57, 3) := by decide +kernel
theorem dX8_number_27 : decode cX8_number 27 = .ok (.bipush 10, 2) := by decide +kernel
theorem dX8_number_29 : decode cX8_number 29 = .ok (.iload_n 1, 1) := by decide +kernel
theorem dX8_number_30 : decode cX8_number 30 = .ok (.imul, 1) := by decide +kernel
theorem dX8_number_31 : decode cX8_number 31 = .ok (.aload_n 0, 1) := by decide +kernel
theorem dX8_number_32 : decode cX8_number 32 = .ok (.getfield 22, 3) := by decide +kernel
theorem dX8_number_35 : decode cX8_number 35 = .ok (.aload_n 0, 1) := by decide +kernel
theorem dX8_number_36 : decode cX8_number 36 = .ok (.getfield 127, 3) := by decide +kernel
theorem dX8_number_39 : decode cX8_number 39 = .ok (.iaload, 1) := by decide +kernel
theorem dX8_number_40 : decode cX8_number 40 = .ok (.iadd, 1) := by decide +kernel
theorem dX8_number_41 : decode cX8_number 41 = .ok (.bipush 48, 2) := by decide +kernel
theorem dX8_number_43 : decode cX8_number 43 = .ok (.isub, 1) := by decide +kernel
theorem dX8_number_44 : decode cX8_number 44 = .ok (.sipush 200, 3) := by decide +kernel
theorem dX8_number_47 : decode cX8_number 47 = .ok (.if_icmp .ge 34, 3) := by decide +kernel
theorem dX8_number_50 : decode cX8_number 50 = .ok (.bipush 10, 2) := by decide +kernel
theorem dX8_number_52 : decode cX8_number 52 = .ok (.iload_n 1, 1) := by decide +kernel
theorem dX8_number_53 : decode cX8_number 53 = .ok (.imul, 1) := by decide +kernel
theorem dX8_number_54 : decode cX8_number 54 = .ok (.aload_n 0, 1) := by decide +kernel
theorem dX8_number_55 : decode cX8_number 55 = .ok (.getfield 22, 3) := by decide +kernel
theorem dX8_number_58 : decode cX8_number 58 = .ok (.aload_n 0, 1) := by decide +kernel
theorem dX8_number_59 : decode cX8_number 59 = .ok (.getfield 127, 3) := by decide +kernel
theorem dX8_number_62 : decode cX8_number 62 = .ok (.iaload, 1) := by decide +kernel
theorem dX8_number_63 : decode cX8_number 63 = .ok (.iadd, 1) := by decide +kernel
theorem dX8_number_64 : decode cX8_number 64 = .ok (.bipush 48, 2) := by decide +kernel
theorem dX8_number_66 : decode cX8_number 66 = .ok (.isub, 1) := by decide +kernel
theorem dX8_number_67 : decode cX8_number 67 = .ok (.istore_n 1, 1) := by decide +kernel
theorem dX8_number_68 : decode cX8_number 68 = .ok (.aload_n 0, 1) := by decide +kernel
theorem dX8_number_69 : decode cX8_number 69 = .ok (.dup, 1) := by decide +kernel
theorem dX8_number_70 : decode cX8_number 70 = .ok (.getfield 127, 3) := by decide +kernel
theorem dX8_number_73 : decode cX8_number 73 = .ok (.iconst 1, 1) := by decide +kernel
theorem dX8_number_74 : decode cX8_number 74 = .ok (.iadd, 1) := by decide +kernel
theorem dX8_number_75 : decode cX8_number 75 = .ok (.putfield 127, 3) := by decide +kernel
theorem dX8_number_78 : decode cX8_number 78 = .ok (.goto (-66), 3) := by decide +kernel
theorem dX8_number_81 : decode cX8_number 81 = .ok (.iload_n 1, 1) := by decide +kernel
theorem dX8_number_82 : decode cX8_number 82 = .ok (.ireturn, 1) := by decide +kernel
theorem dX8_order_0 : decode cX8_order 0 = .ok (.aload_n 0, 1) := by decide +kernel
theorem dX8_order_1 : decode cX8_order 1 = .ok (.bipush 106, 2) := by decide +kernel
theorem dX8_order_3 : decode cX8_order 3 = .ok (.bipush 106, 2) := by decide +kernel
theorem dX8_order_5 : decode cX8_order 5 = .ok (.invokevirtual 142, 3) := by decide +kernel
theorem dX8_order_8 : decode cX8_order 8 = .ok (.ifCond .eq 50, 3) := by decide +kernel
theorem dX8_order_11 : decode cX8_order 11 = .ok (.aload_n 0, 1) := by decide +kernel
theorem dX8_order_12 : decode cX8_order 12 = .ok (.dup, 1) := by decide +kernel
theorem dX8_order_13 : decode cX8_order 13 = .ok (.getfield 127, 3) := by decide +kernel
theorem dX8_order_16 : decode cX8_order 16 = .ok (.iconst 1, 1) := by decide +kernel
theorem dX8_order_17 : decode cX8_order 17 = .ok (.iadd, 1) := by decide +kernel
theorem dX8_order_18 : decode cX8_order 18 = .ok (.putfield 127, 3) := by decide +kernel
theorem dX8_order_21 : decode cX8_order 21 = .ok (.aload_n 0, 1) := by decide +kernel
theorem dX8_order_22 : decode cX8_order 22 = .ok (.bipush 97, 2) := by decide +kernel
theorem dX8_order_24 : decode cX8_order 24 = .ok (.bipush 114, 2) := by decide +kernel
theorem dX8_order_26 : decode cX8_order 26 = .ok (.iconst 0, 1) := by decide +kernel
theorem dX8_order_27 : decode cX8_order 27 = .ok (.iconst 0, 1) := by decide +kernel
theorem dX8_order_28 : decode cX8_order 28 = .ok (.invokevirtual 149, 3) := by decide +kernel
theorem dX8_order_31 : decode cX8_order 31 = .ok (.aload_n 0, 1) := by decide +kernel
theorem dX8_order_32 : decode cX8_order 32 = .ok (.invokevirtual 153, 3) := by decide +kernel
theorem dX8_order_35 : decode cX8_order 35 = .ok (.istore_n 2, 1) := by decide +kernel
theorem dX8_order_36 : decode cX8_order 36 = .ok (.iload_n 1, 1) := by decide +kernel
theorem dX8_order_37 : decode cX8_order 37 = .ok (.ifCond .eq 19, 3) := by decide +kernel
theorem dX8_order_40 : decode cX8_order 40 = .ok (.aload_n 0, 1) := by decide +kernel
theorem dX8_order_41 : decode cX8_order 41 = .ok (.iload_n 2, 1) := by decide +kernel
theorem dX8_order_42 : decode cX8_order 42 = .ok (.aload_n 0, 1) := by decide +kernel
theorem dX8_order_43 : decode cX8_order 43 = .ok (.getfield 136, 3) := by decide +kernel
theorem dX8_order_46 : decode cX8_order 46 = .ok (.aload_n 0, 1) := by decide +kernel
theorem dX8_order_47 : decode cX8_order 47 = .ok (.getfield 139, 3) := by decide +kernel
theorem dX8_order_50 : decode cX8_order 50 = .ok (.invokevirtual 96, 3) := by decide +kernel
theorem dX8_order_53 : decode cX8_order 53 = .ok (.goto 4, 3) := by decide +kernel
theorem dX8_order_56 : decode cX8_order 56 = .ok (.iconst 0, 1) := by decide +kernel
theorem dX8_order_57 : decode cX8_order 57 = .ok (.ireturn, 1) := by decide +kernel
theorem dX8_order_58 : decode cX8_order 58 = .ok (.aload_n 0, 1) := by decide +kernel
theorem dX8_order_59 : decode cX8_order 59 = .ok (.bipush 114, 2) := by decide +kernel
theorem dX8_order_61 : decode cX8_order 61 = .ok (.bipush 114, 2) := by decide +kernel
theorem dX8_order_63 : decode cX8_order 63 = .ok (.invokevirtual 142, 3) := by decide +kernel
theorem dX8_order_66 : decode cX8_order 66 = .ok (.ifCond .eq 43, 3) := by decide +kernel
theorem dX8_order_69 : decode cX8_order 69 = .ok (.aload_n 0, 1) := by decide +kernel
theorem dX8_order_70 : decode cX8_order 70 = .ok (.dup, 1) := by decide +kernel
theorem dX8_order_71 : decode cX8_order 71 = .ok (.getfield 127, 3) := by decide +kernel
theorem dX8_order_74 : decode cX8_order 74 = .ok (.iconst 1, 1) := by decide +kernel
theorem dX8_order_75 : decode cX8_order 75 = .ok (.iadd, 1) := by decide +kernel
theorem dX8_order_76 : decode cX8_order 76 = .ok (.putfield 127, 3) := by decide +kernel
theorem dX8_order_79 : decode cX8_order 79 = .ok (.aload_n 0, 1) := by decide +kernel
theorem dX8_order_80 : decode cX8_order 80 = .ok (.bipush 117, 2) := by decide +kernel
theorem dX8_order_82 : decode cX8_order 82 = .ok (.bipush 108, 2) := by decide +kernel
theorem dX8_order_84 : decode cX8_order 84 = .ok (.bipush 101, 2) := by decide +kernel
theorem dX8_order_86 : decode cX8_order 86 = .ok (.iconst 0, 1) := by decide +kernel
theorem dX8_order_87 : decode cX8_order 87 = .ok (.invokevirtual 149, 3) := by decide +kernel
theorem dX8_order_90 : decode cX8_order 90 = .ok (.aload_n 0, 1) := by decide +kernel
theorem dX8_order_91 : decode cX8_order 91 = .ok (.invokevirtual 153, 3) := by decide +kernel
theorem dX8_order_94 : decode cX8_order 94 = .ok (.istore_n 2, 1) := by decide +kernel
theorem dX8_order_95 : decode cX8_order 95 = .ok (.iload_n 1, 1) := by decide +kernel
theorem dX8_order_96 : decode cX8_order 96 = .ok (.ifCond .eq 11, 3) := by decide +kernel
theorem dX8_order_99 : decode cX8_order 99 = .ok (.aload_n 0, 1) := by decide +kernel
theorem dX8_order_100 : decode cX8_order 100 = .ok (.iload_n 2, 1) := by decide +kernel
theorem dX8_order_101 : decode cX8_order 101 = .ok (.invokevirtual 109, 3) := by decide +kernel
theorem dX8_order_104 : decode cX8_order 104 = .ok (.goto 4, 3) := by decide +kernel
theorem dX8_order_107 : decode cX8_order 107 = .ok (.iconst 0, 1) := by decide +kernel
theorem dX8_order_108 : decode cX8_order 108 = .ok (.ireturn, 1) := by decide +kernel
theorem dX8_order_109 : decode cX8_order 109 = .ok (.aload_n 0, 1) := by decide +kernel
theorem dX8_order_110 : decode cX8_order 110 = .ok (.bipush 119, 2) := by decide +kernel
theorem dX8_order_112 : decode cX8_order 112 = .ok (.bipush 119, 2) := by decide +kernel
theorem dX8_order_114 : decode cX8_order 114 = .ok (.invokevirtual 142, 3) := by decide +kernel
theorem dX8_order_117 : decode cX8_order 117 = .ok (.ifCond .eq 43, 3) := by decide +kernel
theorem dX8_order_120 : decode cX8_order 120 = .ok (.aload_n 0, 1) := by decide +kernel
theorem dX8_order_121 : decode cX8_order 121 = .ok (.dup, 1) := by decide +kernel
theorem dX8_order_122 : decode cX8_order 122 = .ok (.getfield 127, 3) := by decide +kernel
theorem dX8_order_125 : decode cX8_order 125 = .ok (.iconst 1, 1) := by decide +kernel
theorem dX8_order_126 : decode cX8_order 126 = .ok (.iadd, 1) := by decide +kernel
theorem dX8_order_127 : decode cX8_order 127 = .ok (.putfield 127, 3) := by decide +kernel
theorem dX8_order_130 : decode cX8_order 130 = .ok (.aload_n 0, 1) := by decide +kernel
theorem dX8_order_131 : decode cX8_order 131 = .ok (.bipush 97, 2) := by decide +kernel
theorem dX8_order_133 : decode cX8_order 133 = .ok (.bipush 110, 2) := by decide +kernel
theorem dX8_order_135 : decode cX8_order 135 = .ok (.bipush 116, 2) := by decide +kernel
theorem dX8_order_137 : decode cX8_order 137 = .ok (.iconst 0, 1) := by decide +kernel
theorem dX8_order_138 : decode cX8_order 138 = .ok (.invokevirtual 149, 3) := by decide +kernel
theorem dX8_order_141 : decode cX8_order 141 = .ok (.aload_n 0, 1) := by decide +kernel
theorem dX8_order_142 : decode cX8_order 142 = .ok (.invokevirtual 153, 3) := by decide +kernel
theorem dX8_order_145 : decode cX8_order 145 = .ok (.istore_n 2, 1) := by decide +kernel
theorem dX8_order_146 : decode cX8_order 146 = .ok (.iload_n 1, 1) := by decide +kernel
theorem dX8_order_147 : decode cX8_order 147 = .ok (.ifCond .eq 11, 3) := by decide +kernel
theorem dX8_order_150 : decode cX8_order 150 = .ok (.aload_n 0, 1) := by decide +kernel
theorem dX8_order_151 : decode cX8_order 151 = .ok (.iload_n 2, 1) := by decide +kernel
theorem dX8_order_152 : decode cX8_order 152 = .ok (.invokevirtual 118, 3) := by decide +kernel
theorem dX8_order_155 : decode cX8_order 155 = .ok (.goto 4, 3) := by decide +kernel
theorem dX8_order_158 : decode cX8_order 158 = .ok (.iconst 0, 1) := by decide +kernel
theorem dX8_order_159 : decode cX8_order 159 = .ok (.ireturn, 1) := by decide +kernel
theorem dX8_order_160 : decode cX8_order 160 = .ok (.aload_n 0, 1) := by decide +kernel
theorem dX8_order_161 : decode cX8_order 161 = .ok (.bipush 100, 2) := by decide +kernel
theorem dX8_order_163 : decode cX8_order 163 = .ok (.bipush 100, 2) := by decide +kernel
theorem dX8_order_165 : decode cX8_order 165 = .ok (.invokevirtual 142, 3) := by decide +kernel
theorem dX8_order_168 : decode cX8_order 168 = .ok (.ifCond .eq 50, 3) := by decide +kernel
theorem dX8_order_171 : decode cX8_order 171 = .ok (.aload_n 0, 1) := by decide +kernel
theorem dX8_order_172 : decode cX8_order 172 = .ok (.dup, 1) := by decide +kernel
theorem dX8_order_173 : decode cX8_order 173 = .ok (.getfield 127, 3) := by decide +kernel
theorem dX8_order_176 : decode cX8_order 176 = .ok (.iconst 1, 1) := by decide +kernel
theorem dX8_order_177 : decode cX8_order 177 = .ok (.iadd, 1) := by decide +kernel
theorem dX8_order_178 : decode cX8_order 178 = .ok (.putfield 127, 3) := by decide +kernel
theorem dX8_order_181 : decode cX8_order 181 = .ok (.aload_n 0, 1) := by decide +kernel
theorem dX8_order_182 : decode cX8_order 182 = .ok (.bipush 114, 2) := by decide +kernel
theorem dX8_order_184 : decode cX8_order 184 = .ok (.bipush 111, 2) := by decide +kernel
theorem dX8_order_186 : decode cX8_order 186 = .ok (.bipush 112, 2) := by decide +kernel
theorem dX8_order_188 : decode cX8_order 188 = .ok (.iconst 0, 1) := by decide +kernel
theorem dX8_order_189 : decode cX8_order 189 = .ok (.invokevirtual 149, 3) := by decide +kernel
theorem dX8_order_192 : decode cX8_order 192 = .ok (.aload_n 0, 1) := by decide +kernel
theorem dX8_order_193 : decode cX8_order 193 = .ok (.bipush 48, 2) := by decide +kernel
theorem dX8_order_195 : decode cX8_order 195 = .ok (.bipush 57, 2) := by decide +kernel
theorem dX8_order_197 : decode cX8_order 197 = .ok (.invokevirtual 133, 3) := by decide +kernel
theorem dX8_order_200 : decode cX8_order 200 = .ok (.bipush 48, 2) := by decide +kernel
theorem dX8_order_202 : decode cX8_order 202 = .ok (.isub, 1) := by decide +kernel
theorem dX8_order_203 : decode cX8_order 203 = .ok (.istore_n 2, 1) := by decide +kernel
theorem dX8_order_204 : decode cX8_order 204 = .ok (.iload_n 1, 1) := by decide +kernel
theorem dX8_order_205 : decode cX8_order 205 = .ok (.ifCond .eq 11, 3) := by decide +kernel
theorem dX8_order_208 : decode cX8_order 208 = .ok (.aload_n 0, 1) := by decide +kernel
theorem dX8_order_209 : decode cX8_order 209 = .ok (.iload_n 2, 1) := by decide +kernel
theorem dX8_order_210 : decode cX8_order 210 = .ok (.invokevirtual 115, 3) := by decide +kernel
theorem dX8_order_213 : decode cX8_order 213 = .ok (.goto 4, 3) := by decide +kernel
theorem dX8_order_216 : decode cX8_order 216 = .ok (.iconst 0, 1) := by decide +kernel
theorem dX8_order_217 : decode cX8_order 217 = .ok (.ireturn, 1) := by decide +kernel
theorem dX8_order_218 : decode cX8_order 218 = .ok (.aload_n 0, 1) := by decide +kernel
theorem dX8_order_219 : decode cX8_order 219 = .ok (.bipush 112, 2) := by decide +kernel
theorem dX8_order_221 : decode cX8_order 221 = .ok (.bipush 112, 2) := by decide +kernel
theorem dX8_order_223 : decode cX8_order 223 = .ok (.invokevirtual 142, 3) := by decide +kernel
theorem dX8_order_226 : decode cX8_order 226 = .ok (.ifCond .eq 60, 3) := by decide +kernel
theorem dX8_order_229 : decode cX8_order 229 = .ok (.aload_n 0, 1) := by decide +kernel
theorem dX8_order_230 : decode cX8_order 230 = .ok (.dup, 1) := by decide +kernel
theorem dX8_order_231 : decode cX8_order 231 = .ok (.getfield 127, 3) := by decide +kernel
theorem dX8_order_234 : decode cX8_order 234 = .ok (.iconst 1, 1) := by decide +kernel
theorem dX8_order_235 : decode cX8_order 235 = .ok (.iadd, 1) := by decide +kernel
theorem dX8_order_236 : decode cX8_order 236 = .ok (.putfield 127, 3) := by decide +kernel
theorem dX8_order_239 : decode cX8_order 239 = .ok (.aload_n 0, 1) := by decide +kernel
theorem dX8_order_240 : decode cX8_order 240 = .ok (.bipush 111, 2) := by decide +kernel
theorem dX8_order_242 : decode cX8_order 242 = .ok (.bipush 117, 2) := by decide +kernel
theorem dX8_order_244 : decode cX8_order 244 = .ok (.bipush 114, 2) := by decide +kernel
theorem dX8_order_246 : decode cX8_order 246 = .ok (.iconst 0, 1) := by decide +kernel
theorem dX8_order_247 : decode cX8_order 247 = .ok (.invokevirtual 149, 3) := by decide +kernel
theorem dX8_order_250 : decode cX8_order 250 = .ok (.aload_n 0, 1) := by decide +kernel
theorem dX8_order_251 : decode cX8_order 251 = .ok (.invokevirtual 156, 3) := by decide +kernel
theorem dX8_order_254 : decode cX8_order 254 = .ok (.istore_n 2, 1) := by decide +kernel
theorem dX8_order_255 : decode cX8_order 255 = .ok (.aload_n 0, 1) := by decide +kernel
theorem dX8_order_256 : decode cX8_order 256 = .ok (.bipush 62, 2) := by decide +kernel
theorem dX8_order_258 : decode cX8_order 258 = .ok (.bipush 62, 2) := by decide +kernel
theorem dX8_order_260 : decode cX8_order 260 = .ok (.invokevirtual 133, 3) := by decide +kernel
theorem dX8_order_263 : decode cX8_order 263 = .ok (.istore_n 3, 1) := by decide +kernel
theorem dX8_order_264 : decode cX8_order 264 = .ok (.aload_n 0, 1) := by decide +kernel
theorem dX8_order_265 : decode cX8_order 265 = .ok (.invokevirtual 156, 3) := by decide +kernel
theorem dX8_order_268 : decode cX8_order 268 = .ok (.istore 4, 2) := by decide +kernel
theorem dX8_order_270 : decode cX8_order 270 = .ok (.iload_n 1, 1) := by decide +kernel
theorem dX8_order_271 : decode cX8_order 271 = .ok (.ifCond .eq 13, 3) := by decide +kernel
theorem dX8_order_274 : decode cX8_order 274 = .ok (.aload_n 0, 1) := by decide +kernel
theorem dX8_order_275 : decode cX8_order 275 = .ok (.iload_n 2, 1) := by decide +kernel
theorem dX8_order_276 : decode cX8_order 276 = .ok (.iload 4, 2) := by decide +kernel
theorem dX8_order_278 : decode cX8_order 278 = .ok (.invokevirtual 103, 3) := by decide +kernel
theorem dX8_order_281 : decode cX8_order 281 = .ok (.goto 4, 3) := by decide +kernel
theorem dX8_order_284 : decode cX8_order 284 = .ok (.iconst 0, 1) := by decide +kernel
theorem dX8_order_285 : decode cX8_order 285 = .ok (.ireturn, 1) := by decide +kernel
theorem dX8_order_286 : decode cX8_order 286 = .ok (.aload_n 0, 1) := by decide +kernel
theorem dX8_order_287 : decode cX8_order 287 = .ok (.bipush 109, 2) := by decide +kernel
theorem dX8_order_289 : decode cX8_order 289 = .ok (.bipush 111, 2) := by decide +kernel
theorem dX8_order_291 : decode cX8_order 291 = .ok (.bipush 114, 2) := by decide +kernel
theorem dX8_order_293 : decode cX8_order 293 = .ok (.bipush 101, 2) := by decide +kernel
theorem dX8_order_295 : decode cX8_order 295 = .ok (.invokevirtual 149, 3) := by decide +kernel
theorem dX8_order_298 : decode cX8_order 298 = .ok (.aload_n 0, 1) := by decide +kernel
theorem dX8_order_299 : decode cX8_order 299 = .ok (.invokevirtual 156, 3) := by decide +kernel
theorem dX8_order_302 : decode cX8_order 302 = .ok (.istore_n 2, 1) := by decide +kernel
theorem dX8_order_303 : decode cX8_order 303 = .ok (.iload_n 1, 1) := by decide +kernel
theorem dX8_order_304 : decode cX8_order 304 = .ok (.ifCond .eq 11, 3) := by decide +kernel
theorem dX8_order_307 : decode cX8_order 307 = .ok (.aload_n 0, 1) := by decide +kernel
theorem dX8_order_308 : decode cX8_order 308 = .ok (.iload_n 2, 1) := by decide +kernel
theorem dX8_order_309 : decode cX8_order 309 = .ok (.invokevirtual 106, 3) := by decide +kernel
theorem dX8_order_312 : decode cX8_order 312 = .ok (.goto 4, 3) := by decide +kernel
theorem dX8_order_315 : decode cX8_order 315 = .ok (.iconst 0, 1) := by decide +kernel
theorem dX8_order_316 : decode cX8_order 316 = .ok (.ireturn, 1) := by decide +kernel
theorem dX8_go_0 : decode cX8_go 0 = .ok (.aload_n 0, 1) := by decide +kernel
theorem dX8_go_1 : decode cX8_go 1 = .ok (.iconst 0, 1) := by decide +kernel
theorem dX8_go_2 : decode cX8_go 2 = .ok (.putfield 127, 3) := by decide +kernel
theorem dX8_go_5 : decode cX8_go 5 = .ok (.aload_n 0, 1) := by decide +kernel
theorem dX8_go_6 : decode cX8_go 6 = .ok (.iconst 0, 1) := by decide +kernel
theorem dX8_go_7 : decode cX8_go 7 = .ok (.putfield 130, 3) := by decide +kernel
theorem dX8_go_10 : decode cX8_go 10 = .ok (.iconst 0, 1) := by decide +kernel
theorem dX8_go_11 : decode cX8_go 11 = .ok (.istore_n 2, 1) := by decide +kernel
theorem dX8_go_12 : decode cX8_go 12 = .ok (.iconst 1, 1) := by decide +kernel
theorem dX8_go_13 : decode cX8_go 13 = .ok (.istore_n 3, 1) := by decide +kernel
theorem dX8_go_14 : decode cX8_go 14 = .ok (.iload_n 3, 1) := by decide +kernel
theorem dX8_go_15 : decode cX8_go 15 = .ok (.ifCond .eq 82, 3) := by decide +kernel
theorem dX8_go_18 : decode cX8_go 18 = .ok (.aload_n 0, 1) := by decide +kernel
theorem dX8_go_19 : decode cX8_go 19 = .ok (.iload_n 1, 1) := by decide +kernel
theorem dX8_go_20 : decode cX8_go 20 = .ok (.invokevirtual 159, 3) := by decide +kernel
theorem dX8_go_23 : decode cX8_go 23 = .ok (.istore 4, 2) := by decide +kernel
theorem dX8_go_25 : decode cX8_go 25 = .ok (.iload 4, 2) := by decide +kernel
theorem dX8_go_27 : decode cX8_go 27 = .ok (.ifCond .ge 13, 3) := by decide +kernel
theorem dX8_go_30 : decode cX8_go 30 = .ok (.iload 4, 2) := by decide +kernel
theorem dX8_go_32 : decode cX8_go 32 = .ok (.bipush (-5), 2) := by decide +kernel
theorem dX8_go_34 : decode cX8_go 34 = .ok (.if_icmp .eq 6, 3) := by decide +kernel
theorem dX8_go_37 : decode cX8_go 37 = .ok (.iload 4, 2) := by decide +kernel
theorem dX8_go_39 : decode cX8_go 39 = .ok (.ireturn, 1) := by decide +kernel
theorem dX8_go_40 : decode cX8_go 40 = .ok (.iinc 2 1, 3) := by decide +kernel
theorem dX8_go_43 : decode cX8_go 43 = .ok (.aload_n 0, 1) := by decide +kernel
theorem dX8_go_44 : decode cX8_go 44 = .ok (.getfield 130, 3) := by decide +kernel
theorem dX8_go_47 : decode cX8_go 47 = .ok (.ifCond .ne 18, 3) := by decide +kernel
theorem dX8_go_50 : decode cX8_go 50 = .ok (.aload_n 0, 1) := by decide +kernel
theorem dX8_go_51 : decode cX8_go 51 = .ok (.getfield 127, 3) := by decide +kernel
theorem dX8_go_54 : decode cX8_go 54 = .ok (.aload_n 0, 1) := by decide +kernel
theorem dX8_go_55 : decode cX8_go 55 = .ok (.getfield 124, 3) := by decide +kernel
theorem dX8_go_58 : decode cX8_go 58 = .ok (.if_icmp .ge 7, 3) := by decide +kernel
theorem dX8_go_61 : decode cX8_go 61 = .ok (.iconst 1, 1) := by decide +kernel
theorem dX8_go_62 : decode cX8_go 62 = .ok (.goto 4, 3) := by decide +kernel
theorem dX8_go_65 : decode cX8_go 65 = .ok (.iconst 0, 1) := by decide +kernel
theorem dX8_go_66 : decode cX8_go 66 = .ok (.istore_n 3, 1) := by decide +kernel
theorem dX8_go_67 : decode cX8_go 67 = .ok (.iload_n 3, 1) := by decide +kernel
theorem dX8_go_68 : decode cX8_go 68 = .ok (.ifCond .eq 26, 3) := by decide +kernel
theorem dX8_go_71 : decode cX8_go 71 = .ok (.aload_n 0, 1) := by decide +kernel
theorem dX8_go_72 : decode cX8_go 72 = .ok (.bipush 59, 2) := by decide +kernel
theorem dX8_go_74 : decode cX8_go 74 = .ok (.bipush 59, 2) := by decide +kernel
theorem dX8_go_76 : decode cX8_go 76 = .ok (.invokevirtual 133, 3) := by decide +kernel
theorem dX8_go_79 : decode cX8_go 79 = .ok (.istore 5, 2) := by decide +kernel
theorem dX8_go_81 : decode cX8_go 81 = .ok (.aload_n 0, 1) := by decide +kernel
theorem dX8_go_82 : decode cX8_go 82 = .ok (.getfield 130, 3) := by decide +kernel
theorem dX8_go_85 : decode cX8_go 85 = .ok (.ifCond .ne 7, 3) := by decide +kernel
theorem dX8_go_88 : decode cX8_go 88 = .ok (.iconst 1, 1) := by decide +kernel
theorem dX8_go_89 : decode cX8_go 89 = .ok (.goto 4, 3) := by decide +kernel
theorem dX8_go_92 : decode cX8_go 92 = .ok (.iconst 0, 1) := by decide +kernel
theorem dX8_go_93 : decode cX8_go 93 = .ok (.istore_n 3, 1) := by decide +kernel
theorem dX8_go_94 : decode cX8_go 94 = .ok (.goto (-80), 3) := by decide +kernel
theorem dX8_go_97 : decode cX8_go 97 = .ok (.iload_n 2, 1) := by decide +kernel
theorem dX8_go_98 : decode cX8_go 98 = .ok (.ireturn, 1) := by decide +kernel
theorem dX8_fault_0 : decode cX8_fault 0 = .ok (.aload_n 0, 1) := by decide +kernel
theorem dX8_fault_1 : decode cX8_fault 1 = .ok (.iconst 0, 1) := by decide +kernel
theorem dX8_fault_2 : decode cX8_fault 2 = .ok (.invokevirtual 163, 3) := by decide +kernel
theorem dX8_fault_5 : decode cX8_fault 5 = .ok (.istore_n 1, 1) := by decide +kernel
theorem dX8_fault_6 : decode cX8_fault 6 = .ok (.aload_n 0, 1) := by decide +kernel
theorem dX8_fault_7 : decode cX8_fault 7 = .ok (.getfield 130, 3) := by decide +kernel
theorem dX8_fault_10 : decode cX8_fault 10 = .ok (.ifCond .eq 10, 3) := by decide +kernel
theorem dX8_fault_13 : decode cX8_fault 13 = .ok (.aload_n 0, 1) := by decide +kernel
theorem dX8_fault_14 : decode cX8_fault 14 = .ok (.getfield 127, 3) := by decide +kernel
theorem dX8_fault_17 : decode cX8_fault 17 = .ok (.goto 5, 3) := by decide +kernel
theorem dX8_fault_20 : decode cX8_fault 20 = .ok (.bipush (-5), 2) := by decide +kernel
theorem dX8_fault_22 : decode cX8_fault 22 = .ok (.ireturn, 1) := by decide +kernel
theorem dX8_doAll_0 : decode cX8_doAll 0 = .ok (.aload_n 0, 1) := by decide +kernel
theorem dX8_doAll_1 : decode cX8_doAll 1 = .ok (.iconst 0, 1) := by decide +kernel
theorem dX8_doAll_2 : decode cX8_doAll 2 = .ok (.invokevirtual 163, 3) := by decide +kernel
theorem dX8_doAll_5 : decode cX8_doAll 5 = .ok (.istore_n 1, 1) := by decide +kernel
theorem dX8_doAll_6 : decode cX8_doAll 6 = .ok (.aload_n 0, 1) := by decide +kernel
theorem dX8_doAll_7 : decode cX8_doAll 7 = .ok (.getfield 130, 3) := by decide +kernel
theorem dX8_doAll_10 : decode cX8_doAll 10 = .ok (.ifCond .eq 11, 3) := by decide +kernel
theorem dX8_doAll_13 : decode cX8_doAll 13 = .ok (.bipush (-100), 2) := by decide +kernel
theorem dX8_doAll_15 : decode cX8_doAll 15 = .ok (.aload_n 0, 1) := by decide +kernel
theorem dX8_doAll_16 : decode cX8_doAll 16 = .ok (.getfield 127, 3) := by decide +kernel
theorem dX8_doAll_19 : decode cX8_doAll 19 = .ok (.isub, 1) := by decide +kernel
theorem dX8_doAll_20 : decode cX8_doAll 20 = .ok (.ireturn, 1) := by decide +kernel
theorem dX8_doAll_21 : decode cX8_doAll 21 = .ok (.aload_n 0, 1) := by decide +kernel
theorem dX8_doAll_22 : decode cX8_doAll 22 = .ok (.invokevirtual 93, 3) := by decide +kernel
theorem dX8_doAll_25 : decode cX8_doAll 25 = .ok (.aload_n 0, 1) := by decide +kernel
theorem dX8_doAll_26 : decode cX8_doAll 26 = .ok (.aload_n 0, 1) := by decide +kernel
theorem dX8_doAll_27 : decode cX8_doAll 27 = .ok (.iconst 1, 1) := by decide +kernel
theorem dX8_doAll_28 : decode cX8_doAll 28 = .ok (.invokevirtual 163, 3) := by decide +kernel
theorem dX8_doAll_31 : decode cX8_doAll 31 = .ok (.invokevirtual 100, 3) := by decide +kernel
theorem dX8_doAll_34 : decode cX8_doAll 34 = .ok (.ireturn, 1) := by decide +kernel
theorem dX8_undo_0 : decode cX8_undo 0 = .ok (.aload_n 0, 1) := by decide +kernel
theorem dX8_undo_1 : decode cX8_undo 1 = .ok (.getfield 49, 3) := by decide +kernel
theorem dX8_undo_4 : decode cX8_undo 4 = .ok (.ifCond .ne 6, 3) := by decide +kernel
theorem dX8_undo_7 : decode cX8_undo 7 = .ok (.bipush (-5), 2) := by decide +kernel
theorem dX8_undo_9 : decode cX8_undo 9 = .ok (.ireturn, 1) := by decide +kernel
theorem dX8_undo_10 : decode cX8_undo 10 = .ok (.aload_n 0, 1) := by decide +kernel
theorem dX8_undo_11 : decode cX8_undo 11 = .ok (.dup, 1) := by decide +kernel
theorem dX8_undo_12 : decode cX8_undo 12 = .ok (.getfield 49, 3) := by decide +kernel
theorem dX8_undo_15 : decode cX8_undo 15 = .ok (.iconst 1, 1) := by decide +kernel
theorem dX8_undo_16 : decode cX8_undo 16 = .ok (.isub, 1) := by decide +kernel
theorem dX8_undo_17 : decode cX8_undo 17 = .ok (.putfield 49, 3) := by decide +kernel
theorem dX8_undo_20 : decode cX8_undo 20 = .ok (.aload_n 0, 1) := by decide +kernel
theorem dX8_undo_21 : decode cX8_undo 21 = .ok (.iconst 0, 1) := by decide +kernel
theorem dX8_undo_22 : decode cX8_undo 22 = .ok (.putfield 45, 3) := by decide +kernel
theorem dX8_undo_25 : decode cX8_undo 25 = .ok (.iconst 0, 1) := by decide +kernel
theorem dX8_undo_26 : decode cX8_undo 26 = .ok (.istore_n 1, 1) := by decide +kernel
theorem dX8_undo_27 : decode cX8_undo 27 = .ok (.iload_n 1, 1) := by decide +kernel
theorem dX8_undo_28 : decode cX8_undo 28 = .ok (.bipush 60, 2) := by decide +kernel
theorem dX8_undo_30 : decode cX8_undo 30 = .ok (.if_icmp .ge 29, 3) := by decide +kernel
theorem dX8_undo_33 : decode cX8_undo 33 = .ok (.aload_n 0, 1) := by decide +kernel
theorem dX8_undo_34 : decode cX8_undo 34 = .ok (.getfield 7, 3) := by decide +kernel
theorem dX8_undo_37 : decode cX8_undo 37 = .ok (.iload_n 1, 1) := by decide +kernel
theorem dX8_undo_38 : decode cX8_undo 38 = .ok (.aload_n 0, 1) := by decide +kernel
theorem dX8_undo_39 : decode cX8_undo 39 = .ok (.getfield 16, 3) := by decide +kernel
theorem dX8_undo_42 : decode cX8_undo 42 = .ok (.bipush 60, 2) := by decide +kernel
theorem dX8_undo_44 : decode cX8_undo 44 = .ok (.aload_n 0, 1) := by decide +kernel
theorem dX8_undo_45 : decode cX8_undo 45 = .ok (.getfield 49, 3) := by decide +kernel
theorem dX8_undo_48 : decode cX8_undo 48 = .ok (.imul, 1) := by decide +kernel
theorem dX8_undo_49 : decode cX8_undo 49 = .ok (.iload_n 1, 1) := by decide +kernel
theorem dX8_undo_50 : decode cX8_undo 50 = .ok (.iadd, 1) := by decide +kernel
theorem dX8_undo_51 : decode cX8_undo 51 = .ok (.iaload, 1) := by decide +kernel
theorem dX8_undo_52 : decode cX8_undo 52 = .ok (.iastore, 1) := by decide +kernel
theorem dX8_undo_53 : decode cX8_undo 53 = .ok (.iinc 1 1, 3) := by decide +kernel
theorem dX8_undo_56 : decode cX8_undo 56 = .ok (.goto (-29), 3) := by decide +kernel
theorem dX8_undo_59 : decode cX8_undo 59 = .ok (.aload_n 0, 1) := by decide +kernel
theorem dX8_undo_60 : decode cX8_undo 60 = .ok (.getfield 49, 3) := by decide +kernel
theorem dX8_undo_63 : decode cX8_undo 63 = .ok (.ireturn, 1) := by decide +kernel
theorem dX8_keep_0 : decode cX8_keep 0 = .ok (.iconst 0, 1) := by decide +kernel
theorem dX8_keep_1 : decode cX8_keep 1 = .ok (.istore_n 1, 1) := by decide +kernel
theorem dX8_keep_2 : decode cX8_keep 2 = .ok (.iload_n 1, 1) := by decide +kernel
theorem dX8_keep_3 : decode cX8_keep 3 = .ok (.bipush 60, 2) := by decide +kernel
theorem dX8_keep_5 : decode cX8_keep 5 = .ok (.if_icmp .ge 21, 3) := by decide +kernel
theorem dX8_keep_8 : decode cX8_keep 8 = .ok (.aload_n 0, 1) := by decide +kernel
theorem dX8_keep_9 : decode cX8_keep 9 = .ok (.getfield 19, 3) := by decide +kernel
theorem dX8_keep_12 : decode cX8_keep 12 = .ok (.iload_n 1, 1) := by decide +kernel
theorem dX8_keep_13 : decode cX8_keep 13 = .ok (.aload_n 0, 1) := by decide +kernel
theorem dX8_keep_14 : decode cX8_keep 14 = .ok (.getfield 7, 3) := by decide +kernel
theorem dX8_keep_17 : decode cX8_keep 17 = .ok (.iload_n 1, 1) := by decide +kernel
theorem dX8_keep_18 : decode cX8_keep 18 = .ok (.iaload, 1) := by decide +kernel
theorem dX8_keep_19 : decode cX8_keep 19 = .ok (.iastore, 1) := by decide +kernel
theorem dX8_keep_20 : decode cX8_keep 20 = .ok (.iinc 1 1, 3) := by decide +kernel
theorem dX8_keep_23 : decode cX8_keep 23 = .ok (.goto (-21), 3) := by decide +kernel
theorem dX8_keep_26 : decode cX8_keep 26 = .ok (.aload_n 0, 1) := by decide +kernel
theorem dX8_keep_27 : decode cX8_keep 27 = .ok (.iconst 1, 1) := by decide +kernel
theorem dX8_keep_28 : decode cX8_keep 28 = .ok (.putfield 166, 3) := by decide +kernel
theorem dX8_keep_31 : decode cX8_keep 31 = .ok (.aload_n 0, 1) := by decide +kernel
theorem dX8_keep_32 : decode cX8_keep 32 = .ok (.getfield 7, 3) := by decide +kernel
theorem dX8_keep_35 : decode cX8_keep 35 = .ok (.bipush 8, 2) := by decide +kernel
theorem dX8_keep_37 : decode cX8_keep 37 = .ok (.iaload, 1) := by decide +kernel
theorem dX8_keep_38 : decode cX8_keep 38 = .ok (.ireturn, 1) := by decide +kernel
theorem dX8_restore_0 : decode cX8_restore 0 = .ok (.aload_n 0, 1) := by decide +kernel
theorem dX8_restore_1 : decode cX8_restore 1 = .ok (.getfield 166, 3) := by decide +kernel
theorem dX8_restore_4 : decode cX8_restore 4 = .ok (.ifCond .ne 6, 3) := by decide +kernel
theorem dX8_restore_7 : decode cX8_restore 7 = .ok (.bipush (-5), 2) := by decide +kernel
theorem dX8_restore_9 : decode cX8_restore 9 = .ok (.ireturn, 1) := by decide +kernel
theorem dX8_restore_10 : decode cX8_restore 10 = .ok (.aload_n 0, 1) := by decide +kernel
theorem dX8_restore_11 : decode cX8_restore 11 = .ok (.invokevirtual 93, 3) := by decide +kernel
theorem dX8_restore_14 : decode cX8_restore 14 = .ok (.iconst 0, 1) := by decide +kernel
theorem dX8_restore_15 : decode cX8_restore 15 = .ok (.istore_n 1, 1) := by decide +kernel
theorem dX8_restore_16 : decode cX8_restore 16 = .ok (.iload_n 1, 1) := by decide +kernel
theorem dX8_restore_17 : decode cX8_restore 17 = .ok (.bipush 60, 2) := by decide +kernel
theorem dX8_restore_19 : decode cX8_restore 19 = .ok (.if_icmp .ge 21, 3) := by decide +kernel
theorem dX8_restore_22 : decode cX8_restore 22 = .ok (.aload_n 0, 1) := by decide +kernel
theorem dX8_restore_23 : decode cX8_restore 23 = .ok (.getfield 7, 3) := by decide +kernel
theorem dX8_restore_26 : decode cX8_restore 26 = .ok (.iload_n 1, 1) := by decide +kernel
theorem dX8_restore_27 : decode cX8_restore 27 = .ok (.aload_n 0, 1) := by decide +kernel
theorem dX8_restore_28 : decode cX8_restore 28 = .ok (.getfield 19, 3) := by decide +kernel
theorem dX8_restore_31 : decode cX8_restore 31 = .ok (.iload_n 1, 1) := by decide +kernel
theorem dX8_restore_32 : decode cX8_restore 32 = .ok (.iaload, 1) := by decide +kernel
theorem dX8_restore_33 : decode cX8_restore 33 = .ok (.iastore, 1) := by decide +kernel
theorem dX8_restore_34 : decode cX8_restore 34 = .ok (.iinc 1 1, 3) := by decide +kernel
theorem dX8_restore_37 : decode cX8_restore 37 = .ok (.goto (-21), 3) := by decide +kernel
theorem dX8_restore_40 : decode cX8_restore 40 = .ok (.aload_n 0, 1) := by decide +kernel
theorem dX8_restore_41 : decode cX8_restore 41 = .ok (.aload_n 0, 1) := by decide +kernel
theorem dX8_restore_42 : decode cX8_restore 42 = .ok (.getfield 7, 3) := by decide +kernel
theorem dX8_restore_45 : decode cX8_restore 45 = .ok (.bipush 8, 2) := by decide +kernel
theorem dX8_restore_47 : decode cX8_restore 47 = .ok (.iaload, 1) := by decide +kernel
theorem dX8_restore_48 : decode cX8_restore 48 = .ok (.invokevirtual 100, 3) := by decide +kernel
theorem dX8_restore_51 : decode cX8_restore 51 = .ok (.ireturn, 1) := by decide +kernel
theorem dX8_told_0 : decode cX8_told 0 = .ok (.iload_n 2, 1) := by decide +kernel
theorem dX8_told_1 : decode cX8_told 1 = .ok (.tableswitch 62 0 3 #[31, 36, 42, 48], 31) := by decide +kernel
theorem dX8_told_32 : decode cX8_told 32 = .ok (.iload_n 1, 1) := by decide +kernel
theorem dX8_told_33 : decode cX8_told 33 = .ok (.invokestatic 79, 3) := by decide +kernel
theorem dX8_told_36 : decode cX8_told 36 = .ok (.ireturn, 1) := by decide +kernel
theorem dX8_told_37 : decode cX8_told 37 = .ok (.aload_n 0, 1) := by decide +kernel
theorem dX8_told_38 : decode cX8_told 38 = .ok (.iload_n 1, 1) := by decide +kernel
theorem dX8_told_39 : decode cX8_told 39 = .ok (.invokevirtual 70, 3) := by decide +kernel
theorem dX8_told_42 : decode cX8_told 42 = .ok (.ireturn, 1) := by decide +kernel
theorem dX8_told_43 : decode cX8_told 43 = .ok (.aload_n 0, 1) := by decide +kernel
theorem dX8_told_44 : decode cX8_told 44 = .ok (.iload_n 1, 1) := by decide +kernel
theorem dX8_told_45 : decode cX8_told 45 = .ok (.invokevirtual 67, 3) := by decide +kernel
theorem dX8_told_48 : decode cX8_told 48 = .ok (.ireturn, 1) := by decide +kernel
theorem dX8_told_49 : decode cX8_told 49 = .ok (.aload_n 0, 1) := by decide +kernel
theorem dX8_told_50 : decode cX8_told 50 = .ok (.iload_n 1, 1) := by decide +kernel
theorem dX8_told_51 : decode cX8_told 51 = .ok (.invokevirtual 67, 3) := by decide +kernel
theorem dX8_told_54 : decode cX8_told 54 = .ok (.ifCond .ne 7, 3) := by decide +kernel
theorem dX8_told_57 : decode cX8_told 57 = .ok (.iconst 1, 1) := by decide +kernel
theorem dX8_told_58 : decode cX8_told 58 = .ok (.goto 4, 3) := by decide +kernel
theorem dX8_told_61 : decode cX8_told 61 = .ok (.iconst 0, 1) := by decide +kernel
theorem dX8_told_62 : decode cX8_told 62 = .ok (.ireturn, 1) := by decide +kernel
theorem dX8_told_63 : decode cX8_told 63 = .ok (.aload_n 0, 1) := by decide +kernel
theorem dX8_told_64 : decode cX8_told 64 = .ok (.iload_n 1, 1) := by decide +kernel
theorem dX8_told_65 : decode cX8_told 65 = .ok (.invokevirtual 169, 3) := by decide +kernel
theorem dX8_told_68 : decode cX8_told 68 = .ok (.ireturn, 1) := by decide +kernel
theorem dX8_jarOf_0 : decode cX8_jarOf 0 = .ok (.aload_n 0, 1) := by decide +kernel
theorem dX8_jarOf_1 : decode cX8_jarOf 1 = .ok (.iload_n 1, 1) := by decide +kernel
theorem dX8_jarOf_2 : decode cX8_jarOf 2 = .ok (.invokevirtual 82, 3) := by decide +kernel
theorem dX8_jarOf_5 : decode cX8_jarOf 5 = .ok (.istore_n 3, 1) := by decide +kernel
theorem dX8_jarOf_6 : decode cX8_jarOf 6 = .ok (.iload_n 3, 1) := by decide +kernel
theorem dX8_jarOf_7 : decode cX8_jarOf 7 = .ok (.bipush (-5), 2) := by decide +kernel
theorem dX8_jarOf_9 : decode cX8_jarOf 9 = .ok (.if_icmp .ne 5, 3) := by decide +kernel
theorem dX8_jarOf_12 : decode cX8_jarOf 12 = .ok (.iconst (-1), 1) := by decide +kernel
theorem dX8_jarOf_13 : decode cX8_jarOf 13 = .ok (.ireturn, 1) := by decide +kernel
theorem dX8_jarOf_14 : decode cX8_jarOf 14 = .ok (.iload_n 2, 1) := by decide +kernel
theorem dX8_jarOf_15 : decode cX8_jarOf 15 = .ok (.iconst 0, 1) := by decide +kernel
theorem dX8_jarOf_16 : decode cX8_jarOf 16 = .ok (.bipush 6, 2) := by decide +kernel
theorem dX8_jarOf_18 : decode cX8_jarOf 18 = .ok (.invokestatic 41, 3) := by decide +kernel
theorem dX8_jarOf_21 : decode cX8_jarOf 21 = .ok (.ifCond .ne 6, 3) := by decide +kernel
theorem dX8_jarOf_24 : decode cX8_jarOf 24 = .ok (.bipush (-2), 2) := by decide +kernel
theorem dX8_jarOf_26 : decode cX8_jarOf 26 = .ok (.ireturn, 1) := by decide +kernel
theorem dX8_jarOf_27 : decode cX8_jarOf 27 = .ok (.aload_n 0, 1) := by decide +kernel
theorem dX8_jarOf_28 : decode cX8_jarOf 28 = .ok (.iload_n 3, 1) := by decide +kernel
theorem dX8_jarOf_29 : decode cX8_jarOf 29 = .ok (.invokevirtual 76, 3) := by decide +kernel
theorem dX8_jarOf_32 : decode cX8_jarOf 32 = .ok (.istore 4, 2) := by decide +kernel
theorem dX8_jarOf_34 : decode cX8_jarOf 34 = .ok (.iload_n 2, 1) := by decide +kernel
theorem dX8_jarOf_35 : decode cX8_jarOf 35 = .ok (.ifCond .ne 8, 3) := by decide +kernel
theorem dX8_jarOf_38 : decode cX8_jarOf 38 = .ok (.iload 4, 2) := by decide +kernel
theorem dX8_jarOf_40 : decode cX8_jarOf 40 = .ok (.goto 31, 3) := by decide +kernel
theorem dX8_jarOf_43 : decode cX8_jarOf 43 = .ok (.iload_n 2, 1) := by decide +kernel
theorem dX8_jarOf_44 : decode cX8_jarOf 44 = .ok (.bipush 6, 2) := by decide +kernel
theorem dX8_jarOf_46 : decode cX8_jarOf 46 = .ok (.if_icmp .ne 16, 3) := by decide +kernel
theorem dX8_jarOf_49 : decode cX8_jarOf 49 = .ok (.aload_n 0, 1) := by decide +kernel
theorem dX8_jarOf_50 : decode cX8_jarOf 50 = .ok (.aload_n 0, 1) := by decide +kernel
theorem dX8_jarOf_51 : decode cX8_jarOf 51 = .ok (.iload 4, 2) := by decide +kernel
theorem dX8_jarOf_53 : decode cX8_jarOf 53 = .ok (.invokevirtual 169, 3) := by decide +kernel
theorem dX8_jarOf_56 : decode cX8_jarOf 56 = .ok (.invokevirtual 70, 3) := by decide +kernel
theorem dX8_jarOf_59 : decode cX8_jarOf 59 = .ok (.goto 12, 3) := by decide +kernel
theorem dX8_jarOf_62 : decode cX8_jarOf 62 = .ok (.aload_n 0, 1) := by decide +kernel
theorem dX8_jarOf_63 : decode cX8_jarOf 63 = .ok (.iload 4, 2) := by decide +kernel
theorem dX8_jarOf_65 : decode cX8_jarOf 65 = .ok (.iload_n 2, 1) := by decide +kernel
theorem dX8_jarOf_66 : decode cX8_jarOf 66 = .ok (.iconst 1, 1) := by decide +kernel
theorem dX8_jarOf_67 : decode cX8_jarOf 67 = .ok (.isub, 1) := by decide +kernel
theorem dX8_jarOf_68 : decode cX8_jarOf 68 = .ok (.invokevirtual 172, 3) := by decide +kernel
theorem dX8_jarOf_71 : decode cX8_jarOf 71 = .ok (.ireturn, 1) := by decide +kernel
theorem dX8_ranked_0 : decode cX8_ranked 0 = .ok (.iload_n 1, 1) := by decide +kernel
theorem dX8_ranked_1 : decode cX8_ranked 1 = .ok (.ifCond .ge 8, 3) := by decide +kernel
theorem dX8_ranked_4 : decode cX8_ranked 4 = .ok (.bipush (-2), 2) := by decide +kernel
theorem dX8_ranked_6 : decode cX8_ranked 6 = .ok (.goto 24, 3) := by decide +kernel
theorem dX8_ranked_9 : decode cX8_ranked 9 = .ok (.iload_n 1, 1) := by decide +kernel
theorem dX8_ranked_10 : decode cX8_ranked 10 = .ok (.aload_n 0, 1) := by decide +kernel
theorem dX8_ranked_11 : decode cX8_ranked 11 = .ok (.getfield 7, 3) := by decide +kernel
theorem dX8_ranked_14 : decode cX8_ranked 14 = .ok (.bipush 8, 2) := by decide +kernel
theorem dX8_ranked_16 : decode cX8_ranked 16 = .ok (.iaload, 1) := by decide +kernel
theorem dX8_ranked_17 : decode cX8_ranked 17 = .ok (.if_icmp .ge 11, 3) := by decide +kernel
theorem dX8_ranked_20 : decode cX8_ranked 20 = .ok (.aload_n 0, 1) := by decide +kernel
theorem dX8_ranked_21 : decode cX8_ranked 21 = .ok (.iload_n 1, 1) := by decide +kernel
theorem dX8_ranked_22 : decode cX8_ranked 22 = .ok (.invokevirtual 73, 3) := by decide +kernel
theorem dX8_ranked_25 : decode cX8_ranked 25 = .ok (.goto 5, 3) := by decide +kernel
theorem dX8_ranked_28 : decode cX8_ranked 28 = .ok (.bipush (-5), 2) := by decide +kernel
theorem dX8_ranked_30 : decode cX8_ranked 30 = .ok (.ireturn, 1) := by decide +kernel
theorem dX8_ruleOf_0 : decode cX8_ruleOf 0 = .ok (.iload_n 1, 1) := by decide +kernel
theorem dX8_ruleOf_1 : decode cX8_ruleOf 1 = .ok (.iconst 0, 1) := by decide +kernel
theorem dX8_ruleOf_2 : decode cX8_ruleOf 2 = .ok (.aload_n 0, 1) := by decide +kernel
theorem dX8_ruleOf_3 : decode cX8_ruleOf 3 = .ok (.getfield 7, 3) := by decide +kernel
theorem dX8_ruleOf_6 : decode cX8_ruleOf 6 = .ok (.bipush 34, 2) := by decide +kernel
theorem dX8_ruleOf_8 : decode cX8_ruleOf 8 = .ok (.iaload, 1) := by decide +kernel
theorem dX8_ruleOf_9 : decode cX8_ruleOf 9 = .ok (.iconst 1, 1) := by decide +kernel
theorem dX8_ruleOf_10 : decode cX8_ruleOf 10 = .ok (.isub, 1) := by decide +kernel
theorem dX8_ruleOf_11 : decode cX8_ruleOf 11 = .ok (.invokestatic 41, 3) := by decide +kernel
theorem dX8_ruleOf_14 : decode cX8_ruleOf 14 = .ok (.ifCond .eq 15, 3) := by decide +kernel
theorem dX8_ruleOf_17 : decode cX8_ruleOf 17 = .ok (.aload_n 0, 1) := by decide +kernel
theorem dX8_ruleOf_18 : decode cX8_ruleOf 18 = .ok (.getfield 7, 3) := by decide +kernel
theorem dX8_ruleOf_21 : decode cX8_ruleOf 21 = .ok (.bipush 35, 2) := by decide +kernel
theorem dX8_ruleOf_23 : decode cX8_ruleOf 23 = .ok (.iload_n 1, 1) := by decide +kernel
theorem dX8_ruleOf_24 : decode cX8_ruleOf 24 = .ok (.iadd, 1) := by decide +kernel
theorem dX8_ruleOf_25 : decode cX8_ruleOf 25 = .ok (.iaload, 1) := by decide +kernel
theorem dX8_ruleOf_26 : decode cX8_ruleOf 26 = .ok (.goto 4, 3) := by decide +kernel
theorem dX8_ruleOf_29 : decode cX8_ruleOf 29 = .ok (.iconst (-1), 1) := by decide +kernel
theorem dX8_ruleOf_30 : decode cX8_ruleOf 30 = .ok (.ireturn, 1) := by decide +kernel
theorem dX8_mixOf_0 : decode cX8_mixOf 0 = .ok (.iload_n 1, 1) := by decide +kernel
theorem dX8_mixOf_1 : decode cX8_mixOf 1 = .ok (.invokestatic 89, 3) := by decide +kernel
theorem dX8_mixOf_4 : decode cX8_mixOf 4 = .ok (.ifCond .eq 13, 3) := by decide +kernel
theorem dX8_mixOf_7 : decode cX8_mixOf 7 = .ok (.iload_n 2, 1) := by decide +kernel
theorem dX8_mixOf_8 : decode cX8_mixOf 8 = .ok (.iconst 0, 1) := by decide +kernel
theorem dX8_mixOf_9 : decode cX8_mixOf 9 = .ok (.bipush 6, 2) := by decide +kernel
theorem dX8_mixOf_11 : decode cX8_mixOf 11 = .ok (.invokestatic 41, 3) := by decide +kernel
theorem dX8_mixOf_14 : decode cX8_mixOf 14 = .ok (.ifCond .ne 6, 3) := by decide +kernel
theorem dX8_mixOf_17 : decode cX8_mixOf 17 = .ok (.bipush (-2), 2) := by decide +kernel
theorem dX8_mixOf_19 : decode cX8_mixOf 19 = .ok (.ireturn, 1) := by decide +kernel
theorem dX8_mixOf_20 : decode cX8_mixOf 20 = .ok (.iload_n 2, 1) := by decide +kernel
theorem dX8_mixOf_21 : decode cX8_mixOf 21 = .ok (.iconst 5, 1) := by decide +kernel
theorem dX8_mixOf_22 : decode cX8_mixOf 22 = .ok (.if_icmp .ne 11, 3) := by decide +kernel
theorem dX8_mixOf_25 : decode cX8_mixOf 25 = .ok (.iload_n 1, 1) := by decide +kernel
theorem dX8_mixOf_26 : decode cX8_mixOf 26 = .ok (.iload_n 1, 1) := by decide +kernel
theorem dX8_mixOf_27 : decode cX8_mixOf 27 = .ok (.invokestatic 53, 3) := by decide +kernel
theorem dX8_mixOf_30 : decode cX8_mixOf 30 = .ok (.goto 23, 3) := by decide +kernel
theorem dX8_mixOf_33 : decode cX8_mixOf 33 = .ok (.iload_n 2, 1) := by decide +kernel
theorem dX8_mixOf_34 : decode cX8_mixOf 34 = .ok (.bipush 6, 2) := by decide +kernel
theorem dX8_mixOf_36 : decode cX8_mixOf 36 = .ok (.if_icmp .ne 11, 3) := by decide +kernel
theorem dX8_mixOf_39 : decode cX8_mixOf 39 = .ok (.aload_n 0, 1) := by decide +kernel
theorem dX8_mixOf_40 : decode cX8_mixOf 40 = .ok (.iload_n 1, 1) := by decide +kernel
theorem dX8_mixOf_41 : decode cX8_mixOf 41 = .ok (.invokevirtual 175, 3) := by decide +kernel
theorem dX8_mixOf_44 : decode cX8_mixOf 44 = .ok (.goto 9, 3) := by decide +kernel
theorem dX8_mixOf_47 : decode cX8_mixOf 47 = .ok (.aload_n 0, 1) := by decide +kernel
theorem dX8_mixOf_48 : decode cX8_mixOf 48 = .ok (.iload_n 1, 1) := by decide +kernel
theorem dX8_mixOf_49 : decode cX8_mixOf 49 = .ok (.iload_n 2, 1) := by decide +kernel
theorem dX8_mixOf_50 : decode cX8_mixOf 50 = .ok (.invokevirtual 172, 3) := by decide +kernel
theorem dX8_mixOf_53 : decode cX8_mixOf 53 = .ok (.ireturn, 1) := by decide +kernel
theorem dX8_together_0 : decode cX8_together 0 = .ok (.iload_n 1, 1) := by decide +kernel
theorem dX8_together_1 : decode cX8_together 1 = .ok (.invokestatic 89, 3) := by decide +kernel
theorem dX8_together_4 : decode cX8_together 4 = .ok (.ifCond .eq 18, 3) := by decide +kernel
theorem dX8_together_7 : decode cX8_together 7 = .ok (.iload_n 2, 1) := by decide +kernel
theorem dX8_together_8 : decode cX8_together 8 = .ok (.invokestatic 89, 3) := by decide +kernel
theorem dX8_together_11 : decode cX8_together 11 = .ok (.ifCond .eq 11, 3) := by decide +kernel
theorem dX8_together_14 : decode cX8_together 14 = .ok (.iload_n 1, 1) := by decide +kernel
theorem dX8_together_15 : decode cX8_together 15 = .ok (.iload_n 2, 1) := by decide +kernel
theorem dX8_together_16 : decode cX8_together 16 = .ok (.invokestatic 53, 3) := by decide +kernel
theorem dX8_together_19 : decode cX8_together 19 = .ok (.goto 5, 3) := by decide +kernel
theorem dX8_together_22 : decode cX8_together 22 = .ok (.bipush (-2), 2) := by decide +kernel
theorem dX8_together_24 : decode cX8_together 24 = .ok (.ireturn, 1) := by decide +kernel
theorem dX8_alike_0 : decode cX8_alike 0 = .ok (.iload_n 1, 1) := by decide +kernel
theorem dX8_alike_1 : decode cX8_alike 1 = .ok (.invokestatic 89, 3) := by decide +kernel
theorem dX8_alike_4 : decode cX8_alike 4 = .ok (.ifCond .eq 10, 3) := by decide +kernel
theorem dX8_alike_7 : decode cX8_alike 7 = .ok (.iload_n 2, 1) := by decide +kernel
theorem dX8_alike_8 : decode cX8_alike 8 = .ok (.invokestatic 89, 3) := by decide +kernel
theorem dX8_alike_11 : decode cX8_alike 11 = .ok (.ifCond .ne 6, 3) := by decide +kernel
theorem dX8_alike_14 : decode cX8_alike 14 = .ok (.bipush (-2), 2) := by decide +kernel
theorem dX8_alike_16 : decode cX8_alike 16 = .ok (.ireturn, 1) := by decide +kernel
theorem dX8_alike_17 : decode cX8_alike 17 = .ok (.iload_n 3, 1) := by decide +kernel
theorem dX8_alike_18 : decode cX8_alike 18 = .ok (.ifCond .eq 27, 3) := by decide +kernel
theorem dX8_alike_21 : decode cX8_alike 21 = .ok (.aload_n 0, 1) := by decide +kernel
theorem dX8_alike_22 : decode cX8_alike 22 = .ok (.iload_n 2, 1) := by decide +kernel
theorem dX8_alike_23 : decode cX8_alike 23 = .ok (.iload_n 1, 1) := by decide +kernel
theorem dX8_alike_24 : decode cX8_alike 24 = .ok (.iload_n 1, 1) := by decide +kernel
theorem dX8_alike_25 : decode cX8_alike 25 = .ok (.invokestatic 53, 3) := by decide +kernel
theorem dX8_alike_28 : decode cX8_alike 28 = .ok (.invokestatic 53, 3) := by decide +kernel
theorem dX8_alike_31 : decode cX8_alike 31 = .ok (.invokevirtual 67, 3) := by decide +kernel
theorem dX8_alike_34 : decode cX8_alike 34 = .ok (.ifCond .ne 7, 3) := by decide +kernel
theorem dX8_alike_37 : decode cX8_alike 37 = .ok (.iconst 1, 1) := by decide +kernel
theorem dX8_alike_38 : decode cX8_alike 38 = .ok (.goto 25, 3) := by decide +kernel
theorem dX8_alike_41 : decode cX8_alike 41 = .ok (.iconst 0, 1) := by decide +kernel
theorem dX8_alike_42 : decode cX8_alike 42 = .ok (.goto 21, 3) := by decide +kernel
theorem dX8_alike_45 : decode cX8_alike 45 = .ok (.aload_n 0, 1) := by decide +kernel
theorem dX8_alike_46 : decode cX8_alike 46 = .ok (.iload_n 1, 1) := by decide +kernel
theorem dX8_alike_47 : decode cX8_alike 47 = .ok (.invokevirtual 67, 3) := by decide +kernel
theorem dX8_alike_50 : decode cX8_alike 50 = .ok (.aload_n 0, 1) := by decide +kernel
theorem dX8_alike_51 : decode cX8_alike 51 = .ok (.iload_n 2, 1) := by decide +kernel
theorem dX8_alike_52 : decode cX8_alike 52 = .ok (.invokevirtual 67, 3) := by decide +kernel
theorem dX8_alike_55 : decode cX8_alike 55 = .ok (.if_icmp .ne 7, 3) := by decide +kernel
theorem dX8_alike_58 : decode cX8_alike 58 = .ok (.iconst 1, 1) := by decide +kernel
theorem dX8_alike_59 : decode cX8_alike 59 = .ok (.goto 4, 3) := by decide +kernel
theorem dX8_alike_62 : decode cX8_alike 62 = .ok (.iconst 0, 1) := by decide +kernel
theorem dX8_alike_63 : decode cX8_alike 63 = .ok (.istore 4, 2) := by decide +kernel
theorem dX8_alike_65 : decode cX8_alike 65 = .ok (.iload 4, 2) := by decide +kernel
theorem dX8_alike_67 : decode cX8_alike 67 = .ok (.ifCond .eq 7, 3) := by decide +kernel
theorem dX8_alike_70 : decode cX8_alike 70 = .ok (.iconst 1, 1) := by decide +kernel
theorem dX8_alike_71 : decode cX8_alike 71 = .ok (.goto 4, 3) := by decide +kernel
theorem dX8_alike_74 : decode cX8_alike 74 = .ok (.iconst 0, 1) := by decide +kernel
theorem dX8_alike_75 : decode cX8_alike 75 = .ok (.ireturn, 1) := by decide +kernel
theorem dX8_nextShelf_0 : decode cX8_nextShelf 0 = .ok (.bipush (-5), 2) := by decide +kernel
theorem dX8_nextShelf_2 : decode cX8_nextShelf 2 = .ok (.istore_n 2, 1) := by decide +kernel
theorem dX8_nextShelf_3 : decode cX8_nextShelf 3 = .ok (.iconst 0, 1) := by decide +kernel
theorem dX8_nextShelf_4 : decode cX8_nextShelf 4 = .ok (.istore_n 3, 1) := by decide +kernel
theorem dX8_nextShelf_5 : decode cX8_nextShelf 5 = .ok (.iload_n 3, 1) := by decide +kernel
theorem dX8_nextShelf_6 : decode cX8_nextShelf 6 = .ok (.aload_n 0, 1) := by decide +kernel
theorem dX8_nextShelf_7 : decode cX8_nextShelf 7 = .ok (.getfield 7, 3) := by decide +kernel
theorem dX8_nextShelf_10 : decode cX8_nextShelf 10 = .ok (.bipush 8, 2) := by decide +kernel
theorem dX8_nextShelf_12 : decode cX8_nextShelf 12 = .ok (.iaload, 1) := by decide +kernel
theorem dX8_nextShelf_13 : decode cX8_nextShelf 13 = .ok (.if_icmp .ge 45, 3) := by decide +kernel
theorem dX8_nextShelf_16 : decode cX8_nextShelf 16 = .ok (.aload_n 0, 1) := by decide +kernel
theorem dX8_nextShelf_17 : decode cX8_nextShelf 17 = .ok (.aload_n 0, 1) := by decide +kernel
theorem dX8_nextShelf_18 : decode cX8_nextShelf 18 = .ok (.iload_n 3, 1) := by decide +kernel
theorem dX8_nextShelf_19 : decode cX8_nextShelf 19 = .ok (.invokevirtual 76, 3) := by decide +kernel
theorem dX8_nextShelf_22 : decode cX8_nextShelf 22 = .ok (.invokevirtual 67, 3) := by decide +kernel
theorem dX8_nextShelf_25 : decode cX8_nextShelf 25 = .ok (.istore 4, 2) := by decide +kernel
theorem dX8_nextShelf_27 : decode cX8_nextShelf 27 = .ok (.iload 4, 2) := by decide +kernel
theorem dX8_nextShelf_29 : decode cX8_nextShelf 29 = .ok (.iload_n 1, 1) := by decide +kernel
theorem dX8_nextShelf_30 : decode cX8_nextShelf 30 = .ok (.if_icmp .le 20, 3) := by decide +kernel
theorem dX8_nextShelf_33 : decode cX8_nextShelf 33 = .ok (.iload_n 2, 1) := by decide +kernel
theorem dX8_nextShelf_34 : decode cX8_nextShelf 34 = .ok (.bipush (-5), 2) := by decide +kernel
theorem dX8_nextShelf_36 : decode cX8_nextShelf 36 = .ok (.if_icmp .eq 9, 3) := by decide +kernel
theorem dX8_nextShelf_39 : decode cX8_nextShelf 39 = .ok (.iload 4, 2) := by decide +kernel
theorem dX8_nextShelf_41 : decode cX8_nextShelf 41 = .ok (.iload_n 2, 1) := by decide +kernel
theorem dX8_nextShelf_42 : decode cX8_nextShelf 42 = .ok (.if_icmp .ge 8, 3) := by decide +kernel
theorem dX8_nextShelf_45 : decode cX8_nextShelf 45 = .ok (.iload 4, 2) := by decide +kernel
theorem dX8_nextShelf_47 : decode cX8_nextShelf 47 = .ok (.goto 4, 3) := by decide +kernel
theorem dX8_nextShelf_50 : decode cX8_nextShelf 50 = .ok (.iload_n 2, 1) := by decide +kernel
theorem dX8_nextShelf_51 : decode cX8_nextShelf 51 = .ok (.istore_n 2, 1) := by decide +kernel
theorem dX8_nextShelf_52 : decode cX8_nextShelf 52 = .ok (.iinc 3 1, 3) := by decide +kernel
theorem dX8_nextShelf_55 : decode cX8_nextShelf 55 = .ok (.goto (-50), 3) := by decide +kernel
theorem dX8_nextShelf_58 : decode cX8_nextShelf 58 = .ok (.iload_n 2, 1) := by decide +kernel
theorem dX8_nextShelf_59 : decode cX8_nextShelf 59 = .ok (.ireturn, 1) := by decide +kernel
theorem dX8_shelf_0 : decode cX8_shelf 0 = .ok (.iload_n 1, 1) := by decide +kernel
theorem dX8_shelf_1 : decode cX8_shelf 1 = .ok (.ifCond .lt 12, 3) := by decide +kernel
theorem dX8_shelf_4 : decode cX8_shelf 4 = .ok (.iload_n 2, 1) := by decide +kernel
theorem dX8_shelf_5 : decode cX8_shelf 5 = .ok (.iconst 0, 1) := by decide +kernel
theorem dX8_shelf_6 : decode cX8_shelf 6 = .ok (.iconst 3, 1) := by decide +kernel
theorem dX8_shelf_7 : decode cX8_shelf 7 = .ok (.invokestatic 41, 3) := by decide +kernel
theorem dX8_shelf_10 : decode cX8_shelf 10 = .ok (.ifCond .ne 6, 3) := by decide +kernel
theorem dX8_shelf_13 : decode cX8_shelf 13 = .ok (.bipush (-2), 2) := by decide +kernel
theorem dX8_shelf_15 : decode cX8_shelf 15 = .ok (.ireturn, 1) := by decide +kernel
theorem dX8_shelf_16 : decode cX8_shelf 16 = .ok (.aload_n 0, 1) := by decide +kernel
theorem dX8_shelf_17 : decode cX8_shelf 17 = .ok (.iconst (-1), 1) := by decide +kernel
theorem dX8_shelf_18 : decode cX8_shelf 18 = .ok (.invokevirtual 178, 3) := by decide +kernel
theorem dX8_shelf_21 : decode cX8_shelf 21 = .ok (.istore_n 3, 1) := by decide +kernel
theorem dX8_shelf_22 : decode cX8_shelf 22 = .ok (.iconst 0, 1) := by decide +kernel
theorem dX8_shelf_23 : decode cX8_shelf 23 = .ok (.istore 4, 2) := by decide +kernel
theorem dX8_shelf_25 : decode cX8_shelf 25 = .ok (.iload 4, 2) := by decide +kernel
theorem dX8_shelf_27 : decode cX8_shelf 27 = .ok (.iload_n 1, 1) := by decide +kernel
theorem dX8_shelf_28 : decode cX8_shelf 28 = .ok (.if_icmp .ge 21, 3) := by decide +kernel
theorem dX8_shelf_31 : decode cX8_shelf 31 = .ok (.iload_n 3, 1) := by decide +kernel
theorem dX8_shelf_32 : decode cX8_shelf 32 = .ok (.bipush (-5), 2) := by decide +kernel
theorem dX8_shelf_34 : decode cX8_shelf 34 = .ok (.if_icmp .eq 15, 3) := by decide +kernel
theorem dX8_shelf_37 : decode cX8_shelf 37 = .ok (.aload_n 0, 1) := by decide +kernel
theorem dX8_shelf_38 : decode cX8_shelf 38 = .ok (.iload_n 3, 1) := by decide +kernel
theorem dX8_shelf_39 : decode cX8_shelf 39 = .ok (.invokevirtual 178, 3) := by decide +kernel
theorem dX8_shelf_42 : decode cX8_shelf 42 = .ok (.istore_n 3, 1) := by decide +kernel
theorem dX8_shelf_43 : decode cX8_shelf 43 = .ok (.iinc 4 1, 3) := by decide +kernel
theorem dX8_shelf_46 : decode cX8_shelf 46 = .ok (.goto (-21), 3) := by decide +kernel
theorem dX8_shelf_49 : decode cX8_shelf 49 = .ok (.iload_n 3, 1) := by decide +kernel
theorem dX8_shelf_50 : decode cX8_shelf 50 = .ok (.bipush (-5), 2) := by decide +kernel
theorem dX8_shelf_52 : decode cX8_shelf 52 = .ok (.if_icmp .ne 6, 3) := by decide +kernel
theorem dX8_shelf_55 : decode cX8_shelf 55 = .ok (.bipush (-5), 2) := by decide +kernel
theorem dX8_shelf_57 : decode cX8_shelf 57 = .ok (.ireturn, 1) := by decide +kernel
theorem dX8_shelf_58 : decode cX8_shelf 58 = .ok (.bipush (-5), 2) := by decide +kernel
theorem dX8_shelf_60 : decode cX8_shelf 60 = .ok (.istore 4, 2) := by decide +kernel
theorem dX8_shelf_62 : decode cX8_shelf 62 = .ok (.bipush (-5), 2) := by decide +kernel
theorem dX8_shelf_64 : decode cX8_shelf 64 = .ok (.istore 5, 2) := by decide +kernel
theorem dX8_shelf_66 : decode cX8_shelf 66 = .ok (.iconst 0, 1) := by decide +kernel
theorem dX8_shelf_67 : decode cX8_shelf 67 = .ok (.istore 6, 2) := by decide +kernel
theorem dX8_shelf_69 : decode cX8_shelf 69 = .ok (.iload 6, 2) := by decide +kernel
theorem dX8_shelf_71 : decode cX8_shelf 71 = .ok (.aload_n 0, 1) := by decide +kernel
theorem dX8_shelf_72 : decode cX8_shelf 72 = .ok (.getfield 7, 3) := by decide +kernel
theorem dX8_shelf_75 : decode cX8_shelf 75 = .ok (.bipush 8, 2) := by decide +kernel
theorem dX8_shelf_77 : decode cX8_shelf 77 = .ok (.iaload, 1) := by decide +kernel
theorem dX8_shelf_78 : decode cX8_shelf 78 = .ok (.if_icmp .ge 78, 3) := by decide +kernel
theorem dX8_shelf_81 : decode cX8_shelf 81 = .ok (.aload_n 0, 1) := by decide +kernel
theorem dX8_shelf_82 : decode cX8_shelf 82 = .ok (.aload_n 0, 1) := by decide +kernel
theorem dX8_shelf_83 : decode cX8_shelf 83 = .ok (.iload 6, 2) := by decide +kernel
theorem dX8_shelf_85 : decode cX8_shelf 85 = .ok (.invokevirtual 76, 3) := by decide +kernel
theorem dX8_shelf_88 : decode cX8_shelf 88 = .ok (.invokevirtual 67, 3) := by decide +kernel
theorem dX8_shelf_91 : decode cX8_shelf 91 = .ok (.iload_n 3, 1) := by decide +kernel
theorem dX8_shelf_92 : decode cX8_shelf 92 = .ok (.if_icmp .ne 58, 3) := by decide +kernel
theorem dX8_shelf_95 : decode cX8_shelf 95 = .ok (.iload 4, 2) := by decide +kernel
theorem dX8_shelf_97 : decode cX8_shelf 97 = .ok (.bipush (-5), 2) := by decide +kernel
theorem dX8_shelf_99 : decode cX8_shelf 99 = .ok (.if_icmp .ne 8, 3) := by decide +kernel
theorem dX8_shelf_102 : decode cX8_shelf 102 = .ok (.iload 6, 2) := by decide +kernel
theorem dX8_shelf_104 : decode cX8_shelf 104 = .ok (.goto 5, 3) := by decide +kernel
theorem dX8_shelf_107 : decode cX8_shelf 107 = .ok (.iload 4, 2) := by decide +kernel
theorem dX8_shelf_109 : decode cX8_shelf 109 = .ok (.istore 4, 2) := by decide +kernel
theorem dX8_shelf_111 : decode cX8_shelf 111 = .ok (.iload 5, 2) := by decide +kernel
theorem dX8_shelf_113 : decode cX8_shelf 113 = .ok (.bipush (-5), 2) := by decide +kernel
theorem dX8_shelf_115 : decode cX8_shelf 115 = .ok (.if_icmp .eq 26, 3) := by decide +kernel
theorem dX8_shelf_118 : decode cX8_shelf 118 = .ok (.aload_n 0, 1) := by decide +kernel
theorem dX8_shelf_119 : decode cX8_shelf 119 = .ok (.aload_n 0, 1) := by decide +kernel
theorem dX8_shelf_120 : decode cX8_shelf 120 = .ok (.iload 6, 2) := by decide +kernel
theorem dX8_shelf_122 : decode cX8_shelf 122 = .ok (.invokevirtual 76, 3) := by decide +kernel
theorem dX8_shelf_125 : decode cX8_shelf 125 = .ok (.invokevirtual 70, 3) := by decide +kernel
theorem dX8_shelf_128 : decode cX8_shelf 128 = .ok (.aload_n 0, 1) := by decide +kernel
theorem dX8_shelf_129 : decode cX8_shelf 129 = .ok (.aload_n 0, 1) := by decide +kernel
theorem dX8_shelf_130 : decode cX8_shelf 130 = .ok (.iload 5, 2) := by decide +kernel
theorem dX8_shelf_132 : decode cX8_shelf 132 = .ok (.invokevirtual 76, 3) := by decide +kernel
theorem dX8_shelf_135 : decode cX8_shelf 135 = .ok (.invokevirtual 70, 3) := by decide +kernel
theorem dX8_shelf_138 : decode cX8_shelf 138 = .ok (.if_icmp .ge 8, 3) := by decide +kernel
theorem dX8_shelf_141 : decode cX8_shelf 141 = .ok (.iload 6, 2) := by decide +kernel
theorem dX8_shelf_143 : decode cX8_shelf 143 = .ok (.goto 5, 3) := by decide +kernel
theorem dX8_shelf_146 : decode cX8_shelf 146 = .ok (.iload 5, 2) := by decide +kernel
theorem dX8_shelf_148 : decode cX8_shelf 148 = .ok (.istore 5, 2) := by decide +kernel
theorem dX8_shelf_150 : decode cX8_shelf 150 = .ok (.iinc 6 1, 3) := by decide +kernel
theorem dX8_shelf_153 : decode cX8_shelf 153 = .ok (.goto (-84), 3) := by decide +kernel
theorem dX8_shelf_156 : decode cX8_shelf 156 = .ok (.iload_n 2, 1) := by decide +kernel
theorem dX8_shelf_157 : decode cX8_shelf 157 = .ok (.ifCond .ne 7, 3) := by decide +kernel
theorem dX8_shelf_160 : decode cX8_shelf 160 = .ok (.iload_n 3, 1) := by decide +kernel
theorem dX8_shelf_161 : decode cX8_shelf 161 = .ok (.goto 36, 3) := by decide +kernel
theorem dX8_shelf_164 : decode cX8_shelf 164 = .ok (.iload_n 2, 1) := by decide +kernel
theorem dX8_shelf_165 : decode cX8_shelf 165 = .ok (.iconst 1, 1) := by decide +kernel
theorem dX8_shelf_166 : decode cX8_shelf 166 = .ok (.if_icmp .ne 11, 3) := by decide +kernel
theorem dX8_shelf_169 : decode cX8_shelf 169 = .ok (.aload_n 0, 1) := by decide +kernel
theorem dX8_shelf_170 : decode cX8_shelf 170 = .ok (.iload_n 3, 1) := by decide +kernel
theorem dX8_shelf_171 : decode cX8_shelf 171 = .ok (.invokevirtual 175, 3) := by decide +kernel
theorem dX8_shelf_174 : decode cX8_shelf 174 = .ok (.goto 23, 3) := by decide +kernel
theorem dX8_shelf_177 : decode cX8_shelf 177 = .ok (.iload_n 2, 1) := by decide +kernel
theorem dX8_shelf_178 : decode cX8_shelf 178 = .ok (.iconst 2, 1) := by decide +kernel
theorem dX8_shelf_179 : decode cX8_shelf 179 = .ok (.if_icmp .ne 12, 3) := by decide +kernel
theorem dX8_shelf_182 : decode cX8_shelf 182 = .ok (.aload_n 0, 1) := by decide +kernel
theorem dX8_shelf_183 : decode cX8_shelf 183 = .ok (.iload 4, 2) := by decide +kernel
theorem dX8_shelf_185 : decode cX8_shelf 185 = .ok (.invokevirtual 73, 3) := by decide +kernel
theorem dX8_shelf_188 : decode cX8_shelf 188 = .ok (.goto 9, 3) := by decide +kernel
theorem dX8_shelf_191 : decode cX8_shelf 191 = .ok (.aload_n 0, 1) := by decide +kernel
theorem dX8_shelf_192 : decode cX8_shelf 192 = .ok (.iload 5, 2) := by decide +kernel
theorem dX8_shelf_194 : decode cX8_shelf 194 = .ok (.invokevirtual 73, 3) := by decide +kernel
theorem dX8_shelf_197 : decode cX8_shelf 197 = .ok (.ireturn, 1) := by decide +kernel
theorem dX8_waiting_0 : decode cX8_waiting 0 = .ok (.iload_n 1, 1) := by decide +kernel
theorem dX8_waiting_1 : decode cX8_waiting 1 = .ok (.ifCond .ge 8, 3) := by decide +kernel
theorem dX8_waiting_4 : decode cX8_waiting 4 = .ok (.bipush (-2), 2) := by decide +kernel
theorem dX8_waiting_6 : decode cX8_waiting 6 = .ok (.goto 28, 3) := by decide +kernel
theorem dX8_waiting_9 : decode cX8_waiting 9 = .ok (.iload_n 1, 1) := by decide +kernel
theorem dX8_waiting_10 : decode cX8_waiting 10 = .ok (.aload_n 0, 1) := by decide +kernel
theorem dX8_waiting_11 : decode cX8_waiting 11 = .ok (.getfield 7, 3) := by decide +kernel
theorem dX8_waiting_14 : decode cX8_waiting 14 = .ok (.bipush 43, 2) := by decide +kernel
theorem dX8_waiting_16 : decode cX8_waiting 16 = .ok (.iaload, 1) := by decide +kernel
theorem dX8_waiting_17 : decode cX8_waiting 17 = .ok (.if_icmp .ge 15, 3) := by decide +kernel
theorem dX8_waiting_20 : decode cX8_waiting 20 = .ok (.aload_n 0, 1) := by decide +kernel
theorem dX8_waiting_21 : decode cX8_waiting 21 = .ok (.getfield 7, 3) := by decide +kernel
theorem dX8_waiting_24 : decode cX8_waiting 24 = .ok (.bipush 44, 2) := by decide +kernel
theorem dX8_waiting_26 : decode cX8_waiting 26 = .ok (.iload_n 1, 1) := by decide +kernel
theorem dX8_waiting_27 : decode cX8_waiting 27 = .ok (.iadd, 1) := by decide +kernel
theorem dX8_waiting_28 : decode cX8_waiting 28 = .ok (.iaload, 1) := by decide +kernel
theorem dX8_waiting_29 : decode cX8_waiting 29 = .ok (.goto 5, 3) := by decide +kernel
theorem dX8_waiting_32 : decode cX8_waiting 32 = .ok (.bipush (-5), 2) := by decide +kernel
theorem dX8_waiting_34 : decode cX8_waiting 34 = .ok (.ireturn, 1) := by decide +kernel
theorem dX8_shelves_0 : decode cX8_shelves 0 = .ok (.iconst 0, 1) := by decide +kernel
theorem dX8_shelves_1 : decode cX8_shelves 1 = .ok (.istore_n 1, 1) := by decide +kernel
theorem dX8_shelves_2 : decode cX8_shelves 2 = .ok (.aload_n 0, 1) := by decide +kernel
theorem dX8_shelves_3 : decode cX8_shelves 3 = .ok (.iconst (-1), 1) := by decide +kernel
theorem dX8_shelves_4 : decode cX8_shelves 4 = .ok (.invokevirtual 178, 3) := by decide +kernel
theorem dX8_shelves_7 : decode cX8_shelves 7 = .ok (.istore_n 2, 1) := by decide +kernel
theorem dX8_shelves_8 : decode cX8_shelves 8 = .ok (.iload_n 2, 1) := by decide +kernel
theorem dX8_shelves_9 : decode cX8_shelves 9 = .ok (.bipush (-5), 2) := by decide +kernel
theorem dX8_shelves_11 : decode cX8_shelves 11 = .ok (.if_icmp .eq 15, 3) := by decide +kernel
theorem dX8_shelves_14 : decode cX8_shelves 14 = .ok (.iinc 1 1, 3) := by decide +kernel
theorem dX8_shelves_17 : decode cX8_shelves 17 = .ok (.aload_n 0, 1) := by decide +kernel
theorem dX8_shelves_18 : decode cX8_shelves 18 = .ok (.iload_n 2, 1) := by decide +kernel
theorem dX8_shelves_19 : decode cX8_shelves 19 = .ok (.invokevirtual 178, 3) := by decide +kernel
theorem dX8_shelves_22 : decode cX8_shelves 22 = .ok (.istore_n 2, 1) := by decide +kernel
theorem dX8_shelves_23 : decode cX8_shelves 23 = .ok (.goto (-15), 3) := by decide +kernel
theorem dX8_shelves_26 : decode cX8_shelves 26 = .ok (.iload_n 1, 1) := by decide +kernel
theorem dX8_shelves_27 : decode cX8_shelves 27 = .ok (.ireturn, 1) := by decide +kernel
theorem dX8_count_0 : decode cX8_count 0 = .ok (.iload_n 1, 1) := by decide +kernel
theorem dX8_count_1 : decode cX8_count 1 = .ok (.tableswitch 181 0 17 #[87, 95, 103, 108, 116, 127, 132, 140, 140, 140, 140, 153, 158, 158, 158, 158, 171, 176], 87) := by decide +kernel
theorem dX8_count_88 : decode cX8_count 88 = .ok (.aload_n 0, 1) := by decide +kernel
theorem dX8_count_89 : decode cX8_count 89 = .ok (.getfield 7, 3) := by decide +kernel
theorem dX8_count_92 : decode cX8_count 92 = .ok (.bipush 8, 2) := by decide +kernel
theorem dX8_count_94 : decode cX8_count 94 = .ok (.iaload, 1) := by decide +kernel
theorem dX8_count_95 : decode cX8_count 95 = .ok (.ireturn, 1) := by decide +kernel
theorem dX8_count_96 : decode cX8_count 96 = .ok (.aload_n 0, 1) := by decide +kernel
theorem dX8_count_97 : decode cX8_count 97 = .ok (.getfield 7, 3) := by decide +kernel
theorem dX8_count_100 : decode cX8_count 100 = .ok (.bipush 34, 2) := by decide +kernel
theorem dX8_count_102 : decode cX8_count 102 = .ok (.iaload, 1) := by decide +kernel
theorem dX8_count_103 : decode cX8_count 103 = .ok (.ireturn, 1) := by decide +kernel
theorem dX8_count_104 : decode cX8_count 104 = .ok (.aload_n 0, 1) := by decide +kernel
theorem dX8_count_105 : decode cX8_count 105 = .ok (.invokevirtual 112, 3) := by decide +kernel
theorem dX8_count_108 : decode cX8_count 108 = .ok (.ireturn, 1) := by decide +kernel
theorem dX8_count_109 : decode cX8_count 109 = .ok (.aload_n 0, 1) := by decide +kernel
theorem dX8_count_110 : decode cX8_count 110 = .ok (.invokevirtual 112, 3) := by decide +kernel
theorem dX8_count_113 : decode cX8_count 113 = .ok (.invokestatic 146, 3) := by decide +kernel
theorem dX8_count_116 : decode cX8_count 116 = .ok (.ireturn, 1) := by decide +kernel
theorem dX8_count_117 : decode cX8_count 117 = .ok (.bipush 8, 2) := by decide +kernel
theorem dX8_count_119 : decode cX8_count 119 = .ok (.aload_n 0, 1) := by decide +kernel
theorem dX8_count_120 : decode cX8_count 120 = .ok (.invokevirtual 112, 3) := by decide +kernel
theorem dX8_count_123 : decode cX8_count 123 = .ok (.isub, 1) := by decide +kernel
theorem dX8_count_124 : decode cX8_count 124 = .ok (.invokestatic 146, 3) := by decide +kernel
theorem dX8_count_127 : decode cX8_count 127 = .ok (.ireturn, 1) := by decide +kernel
theorem dX8_count_128 : decode cX8_count 128 = .ok (.aload_n 0, 1) := by decide +kernel
theorem dX8_count_129 : decode cX8_count 129 = .ok (.invokevirtual 181, 3) := by decide +kernel
theorem dX8_count_132 : decode cX8_count 132 = .ok (.ireturn, 1) := by decide +kernel
theorem dX8_count_133 : decode cX8_count 133 = .ok (.aload_n 0, 1) := by decide +kernel
theorem dX8_count_134 : decode cX8_count 134 = .ok (.getfield 7, 3) := by decide +kernel
theorem dX8_count_137 : decode cX8_count 137 = .ok (.bipush 43, 2) := by decide +kernel
theorem dX8_count_139 : decode cX8_count 139 = .ok (.iaload, 1) := by decide +kernel
theorem dX8_count_140 : decode cX8_count 140 = .ok (.ireturn, 1) := by decide +kernel
theorem dX8_count_141 : decode cX8_count 141 = .ok (.aload_n 0, 1) := by decide +kernel
theorem dX8_count_142 : decode cX8_count 142 = .ok (.getfield 7, 3) := by decide +kernel
theorem dX8_count_145 : decode cX8_count 145 = .ok (.bipush 52, 2) := by decide +kernel
theorem dX8_count_147 : decode cX8_count 147 = .ok (.iload_n 1, 1) := by decide +kernel
theorem dX8_count_148 : decode cX8_count 148 = .ok (.iadd, 1) := by decide +kernel
theorem dX8_count_149 : decode cX8_count 149 = .ok (.bipush 7, 2) := by decide +kernel
theorem dX8_count_151 : decode cX8_count 151 = .ok (.isub, 1) := by decide +kernel
theorem dX8_count_152 : decode cX8_count 152 = .ok (.iaload, 1) := by decide +kernel
theorem dX8_count_153 : decode cX8_count 153 = .ok (.ireturn, 1) := by decide +kernel
theorem dX8_count_154 : decode cX8_count 154 = .ok (.aload_n 0, 1) := by decide +kernel
theorem dX8_count_155 : decode cX8_count 155 = .ok (.invokevirtual 184, 3) := by decide +kernel
theorem dX8_count_158 : decode cX8_count 158 = .ok (.ireturn, 1) := by decide +kernel
theorem dX8_count_159 : decode cX8_count 159 = .ok (.aload_n 0, 1) := by decide +kernel
theorem dX8_count_160 : decode cX8_count 160 = .ok (.getfield 7, 3) := by decide +kernel
theorem dX8_count_163 : decode cX8_count 163 = .ok (.bipush 56, 2) := by decide +kernel
theorem dX8_count_165 : decode cX8_count 165 = .ok (.iload_n 1, 1) := by decide +kernel
theorem dX8_count_166 : decode cX8_count 166 = .ok (.iadd, 1) := by decide +kernel
theorem dX8_count_167 : decode cX8_count 167 = .ok (.bipush 12, 2) := by decide +kernel
theorem dX8_count_169 : decode cX8_count 169 = .ok (.isub, 1) := by decide +kernel
theorem dX8_count_170 : decode cX8_count 170 = .ok (.iaload, 1) := by decide +kernel
theorem dX8_count_171 : decode cX8_count 171 = .ok (.ireturn, 1) := by decide +kernel
theorem dX8_count_172 : decode cX8_count 172 = .ok (.aload_n 0, 1) := by decide +kernel
theorem dX8_count_173 : decode cX8_count 173 = .ok (.getfield 49, 3) := by decide +kernel
theorem dX8_count_176 : decode cX8_count 176 = .ok (.ireturn, 1) := by decide +kernel
theorem dX8_count_177 : decode cX8_count 177 = .ok (.aload_n 0, 1) := by decide +kernel
theorem dX8_count_178 : decode cX8_count 178 = .ok (.getfield 124, 3) := by decide +kernel
theorem dX8_count_181 : decode cX8_count 181 = .ok (.ireturn, 1) := by decide +kernel
theorem dX8_count_182 : decode cX8_count 182 = .ok (.bipush (-2), 2) := by decide +kernel
theorem dX8_count_184 : decode cX8_count 184 = .ok (.ireturn, 1) := by decide +kernel
theorem dX8_lost_0 : decode cX8_lost 0 = .ok (.aload_n 0, 1) := by decide +kernel
theorem dX8_lost_1 : decode cX8_lost 1 = .ok (.getfield 7, 3) := by decide +kernel
theorem dX8_lost_4 : decode cX8_lost 4 = .ok (.bipush 52, 2) := by decide +kernel
theorem dX8_lost_6 : decode cX8_lost 6 = .ok (.iaload, 1) := by decide +kernel
theorem dX8_lost_7 : decode cX8_lost 7 = .ok (.ifCond .ne 7, 3) := by decide +kernel
theorem dX8_lost_10 : decode cX8_lost 10 = .ok (.dconst 0, 1) := by decide +kernel
theorem dX8_lost_11 : decode cX8_lost 11 = .ok (.goto 20, 3) := by decide +kernel
theorem dX8_lost_14 : decode cX8_lost 14 = .ok (.aload_n 0, 1) := by decide +kernel
theorem dX8_lost_15 : decode cX8_lost 15 = .ok (.getfield 7, 3) := by decide +kernel
theorem dX8_lost_18 : decode cX8_lost 18 = .ok (.bipush 53, 2) := by decide +kernel
theorem dX8_lost_20 : decode cX8_lost 20 = .ok (.iaload, 1) := by decide +kernel
theorem dX8_lost_21 : decode cX8_lost 21 = .ok (.i2d, 1) := by decide +kernel
theorem dX8_lost_22 : decode cX8_lost 22 = .ok (.aload_n 0, 1) := by decide +kernel
theorem dX8_lost_23 : decode cX8_lost 23 = .ok (.getfield 7, 3) := by decide +kernel
theorem dX8_lost_26 : decode cX8_lost 26 = .ok (.bipush 52, 2) := by decide +kernel
theorem dX8_lost_28 : decode cX8_lost 28 = .ok (.iaload, 1) := by decide +kernel
theorem dX8_lost_29 : decode cX8_lost 29 = .ok (.i2d, 1) := by decide +kernel
theorem dX8_lost_30 : decode cX8_lost 30 = .ok (.ddiv, 1) := by decide +kernel
theorem dX8_lost_31 : decode cX8_lost 31 = .ok (.dreturn, 1) := by decide +kernel
theorem dX8_laySums_0 : decode cX8_laySums 0 = .ok (.iconst 1, 1) := by decide +kernel
theorem dX8_laySums_1 : decode cX8_laySums 1 = .ok (.istore_n 1, 1) := by decide +kernel
theorem dX8_laySums_2 : decode cX8_laySums 2 = .ok (.iconst 0, 1) := by decide +kernel
theorem dX8_laySums_3 : decode cX8_laySums 3 = .ok (.istore_n 2, 1) := by decide +kernel
theorem dX8_laySums_4 : decode cX8_laySums 4 = .ok (.iload_n 2, 1) := by decide +kernel
theorem dX8_laySums_5 : decode cX8_laySums 5 = .ok (.aload_n 0, 1) := by decide +kernel
theorem dX8_laySums_6 : decode cX8_laySums 6 = .ok (.getfield 7, 3) := by decide +kernel
theorem dX8_laySums_9 : decode cX8_laySums 9 = .ok (.bipush 8, 2) := by decide +kernel
theorem dX8_laySums_11 : decode cX8_laySums 11 = .ok (.iaload, 1) := by decide +kernel
theorem dX8_laySums_12 : decode cX8_laySums 12 = .ok (.if_icmp .ge 48, 3) := by decide +kernel
theorem dX8_laySums_15 : decode cX8_laySums 15 = .ok (.iconst 0, 1) := by decide +kernel
theorem dX8_laySums_16 : decode cX8_laySums 16 = .ok (.istore_n 3, 1) := by decide +kernel
theorem dX8_laySums_17 : decode cX8_laySums 17 = .ok (.iload_n 3, 1) := by decide +kernel
theorem dX8_laySums_18 : decode cX8_laySums 18 = .ok (.iload_n 1, 1) := by decide +kernel
theorem dX8_laySums_19 : decode cX8_laySums 19 = .ok (.if_icmp .ge 31, 3) := by decide +kernel
theorem dX8_laySums_22 : decode cX8_laySums 22 = .ok (.aload_n 0, 1) := by decide +kernel
theorem dX8_laySums_23 : decode cX8_laySums 23 = .ok (.getfield 38, 3) := by decide +kernel
theorem dX8_laySums_26 : decode cX8_laySums 26 = .ok (.iload_n 1, 1) := by decide +kernel
theorem dX8_laySums_27 : decode cX8_laySums 27 = .ok (.iload_n 3, 1) := by decide +kernel
theorem dX8_laySums_28 : decode cX8_laySums 28 = .ok (.iadd, 1) := by decide +kernel
theorem dX8_laySums_29 : decode cX8_laySums 29 = .ok (.aload_n 0, 1) := by decide +kernel
theorem dX8_laySums_30 : decode cX8_laySums 30 = .ok (.getfield 38, 3) := by decide +kernel
theorem dX8_laySums_33 : decode cX8_laySums 33 = .ok (.iload_n 3, 1) := by decide +kernel
theorem dX8_laySums_34 : decode cX8_laySums 34 = .ok (.iaload, 1) := by decide +kernel
theorem dX8_laySums_35 : decode cX8_laySums 35 = .ok (.aload_n 0, 1) := by decide +kernel
theorem dX8_laySums_36 : decode cX8_laySums 36 = .ok (.iload_n 2, 1) := by decide +kernel
theorem dX8_laySums_37 : decode cX8_laySums 37 = .ok (.invokevirtual 76, 3) := by decide +kernel
theorem dX8_laySums_40 : decode cX8_laySums 40 = .ok (.invokestatic 53, 3) := by decide +kernel
theorem dX8_laySums_43 : decode cX8_laySums 43 = .ok (.iastore, 1) := by decide +kernel
theorem dX8_laySums_44 : decode cX8_laySums 44 = .ok (.iinc 3 1, 3) := by decide +kernel
theorem dX8_laySums_47 : decode cX8_laySums 47 = .ok (.goto (-30), 3) := by decide +kernel
theorem dX8_laySums_50 : decode cX8_laySums 50 = .ok (.iconst 2, 1) := by decide +kernel
theorem dX8_laySums_51 : decode cX8_laySums 51 = .ok (.iload_n 1, 1) := by decide +kernel
theorem dX8_laySums_52 : decode cX8_laySums 52 = .ok (.imul, 1) := by decide +kernel
theorem dX8_laySums_53 : decode cX8_laySums 53 = .ok (.istore_n 1, 1) := by decide +kernel
theorem dX8_laySums_54 : decode cX8_laySums 54 = .ok (.iinc 2 1, 3) := by decide +kernel
theorem dX8_laySums_57 : decode cX8_laySums 57 = .ok (.goto (-53), 3) := by decide +kernel
theorem dX8_laySums_60 : decode cX8_laySums 60 = .ok (.iload_n 1, 1) := by decide +kernel
theorem dX8_laySums_61 : decode cX8_laySums 61 = .ok (.ireturn, 1) := by decide +kernel
theorem dX8_size_0 : decode cX8_size 0 = .ok (.iconst 0, 1) := by decide +kernel
theorem dX8_size_1 : decode cX8_size 1 = .ok (.istore_n 1, 1) := by decide +kernel
theorem dX8_size_2 : decode cX8_size 2 = .ok (.iload_n 0, 1) := by decide +kernel
theorem dX8_size_3 : decode cX8_size 3 = .ok (.istore_n 2, 1) := by decide +kernel
theorem dX8_size_4 : decode cX8_size 4 = .ok (.iload_n 2, 1) := by decide +kernel
theorem dX8_size_5 : decode cX8_size 5 = .ok (.ifCond .le 16, 3) := by decide +kernel
theorem dX8_size_8 : decode cX8_size 8 = .ok (.iload_n 1, 1) := by decide +kernel
theorem dX8_size_9 : decode cX8_size 9 = .ok (.iload_n 2, 1) := by decide +kernel
theorem dX8_size_10 : decode cX8_size 10 = .ok (.iconst 2, 1) := by decide +kernel
theorem dX8_size_11 : decode cX8_size 11 = .ok (.irem, 1) := by decide +kernel
theorem dX8_size_12 : decode cX8_size 12 = .ok (.iadd, 1) := by decide +kernel
theorem dX8_size_13 : decode cX8_size 13 = .ok (.istore_n 1, 1) := by decide +kernel
theorem dX8_size_14 : decode cX8_size 14 = .ok (.iload_n 2, 1) := by decide +kernel
theorem dX8_size_15 : decode cX8_size 15 = .ok (.iconst 2, 1) := by decide +kernel
theorem dX8_size_16 : decode cX8_size 16 = .ok (.idiv, 1) := by decide +kernel
theorem dX8_size_17 : decode cX8_size 17 = .ok (.istore_n 2, 1) := by decide +kernel
theorem dX8_size_18 : decode cX8_size 18 = .ok (.goto (-14), 3) := by decide +kernel
theorem dX8_size_21 : decode cX8_size 21 = .ok (.iload_n 1, 1) := by decide +kernel
theorem dX8_size_22 : decode cX8_size 22 = .ok (.ireturn, 1) := by decide +kernel
theorem dX8_fewest_0 : decode cX8_fewest 0 = .ok (.iload_n 1, 1) := by decide +kernel
theorem dX8_fewest_1 : decode cX8_fewest 1 = .ok (.invokestatic 89, 3) := by decide +kernel
theorem dX8_fewest_4 : decode cX8_fewest 4 = .ok (.ifCond .eq 12, 3) := by decide +kernel
theorem dX8_fewest_7 : decode cX8_fewest 7 = .ok (.iload_n 2, 1) := by decide +kernel
theorem dX8_fewest_8 : decode cX8_fewest 8 = .ok (.iconst 0, 1) := by decide +kernel
theorem dX8_fewest_9 : decode cX8_fewest 9 = .ok (.iconst 1, 1) := by decide +kernel
theorem dX8_fewest_10 : decode cX8_fewest 10 = .ok (.invokestatic 41, 3) := by decide +kernel
theorem dX8_fewest_13 : decode cX8_fewest 13 = .ok (.ifCond .ne 6, 3) := by decide +kernel
theorem dX8_fewest_16 : decode cX8_fewest 16 = .ok (.bipush (-2), 2) := by decide +kernel
theorem dX8_fewest_18 : decode cX8_fewest 18 = .ok (.ireturn, 1) := by decide +kernel
theorem dX8_fewest_19 : decode cX8_fewest 19 = .ok (.aload_n 0, 1) := by decide +kernel
theorem dX8_fewest_20 : decode cX8_fewest 20 = .ok (.iload_n 1, 1) := by decide +kernel
theorem dX8_fewest_21 : decode cX8_fewest 21 = .ok (.invokevirtual 67, 3) := by decide +kernel
theorem dX8_fewest_24 : decode cX8_fewest 24 = .ok (.istore_n 3, 1) := by decide +kernel
theorem dX8_fewest_25 : decode cX8_fewest 25 = .ok (.aload_n 0, 1) := by decide +kernel
theorem dX8_fewest_26 : decode cX8_fewest 26 = .ok (.invokevirtual 187, 3) := by decide +kernel
theorem dX8_fewest_29 : decode cX8_fewest 29 = .ok (.istore 4, 2) := by decide +kernel
theorem dX8_fewest_31 : decode cX8_fewest 31 = .ok (.bipush (-5), 2) := by decide +kernel
theorem dX8_fewest_33 : decode cX8_fewest 33 = .ok (.istore 5, 2) := by decide +kernel
theorem dX8_fewest_35 : decode cX8_fewest 35 = .ok (.iconst 0, 1) := by decide +kernel
theorem dX8_fewest_36 : decode cX8_fewest 36 = .ok (.istore 6, 2) := by decide +kernel
theorem dX8_fewest_38 : decode cX8_fewest 38 = .ok (.iload 6, 2) := by decide +kernel
theorem dX8_fewest_40 : decode cX8_fewest 40 = .ok (.iload 4, 2) := by decide +kernel
theorem dX8_fewest_42 : decode cX8_fewest 42 = .ok (.if_icmp .ge 66, 3) := by decide +kernel
theorem dX8_fewest_45 : decode cX8_fewest 45 = .ok (.aload_n 0, 1) := by decide +kernel
theorem dX8_fewest_46 : decode cX8_fewest 46 = .ok (.getfield 29, 3) := by decide +kernel
theorem dX8_fewest_49 : decode cX8_fewest 49 = .ok (.aload_n 0, 1) := by decide +kernel
theorem dX8_fewest_50 : decode cX8_fewest 50 = .ok (.getfield 38, 3) := by decide +kernel
theorem dX8_fewest_53 : decode cX8_fewest 53 = .ok (.iload 6, 2) := by decide +kernel
theorem dX8_fewest_55 : decode cX8_fewest 55 = .ok (.iaload, 1) := by decide +kernel
theorem dX8_fewest_56 : decode cX8_fewest 56 = .ok (.iaload, 1) := by decide +kernel
theorem dX8_fewest_57 : decode cX8_fewest 57 = .ok (.iload_n 3, 1) := by decide +kernel
theorem dX8_fewest_58 : decode cX8_fewest 58 = .ok (.if_icmp .ne 27, 3) := by decide +kernel
theorem dX8_fewest_61 : decode cX8_fewest 61 = .ok (.iload 5, 2) := by decide +kernel
theorem dX8_fewest_63 : decode cX8_fewest 63 = .ok (.bipush (-5), 2) := by decide +kernel
theorem dX8_fewest_65 : decode cX8_fewest 65 = .ok (.if_icmp .eq 16, 3) := by decide +kernel
theorem dX8_fewest_68 : decode cX8_fewest 68 = .ok (.iload 6, 2) := by decide +kernel
theorem dX8_fewest_70 : decode cX8_fewest 70 = .ok (.invokestatic 190, 3) := by decide +kernel
theorem dX8_fewest_73 : decode cX8_fewest 73 = .ok (.iload 5, 2) := by decide +kernel
theorem dX8_fewest_75 : decode cX8_fewest 75 = .ok (.invokestatic 190, 3) := by decide +kernel
theorem dX8_fewest_78 : decode cX8_fewest 78 = .ok (.if_icmp .ge 7, 3) := by decide +kernel
theorem dX8_fewest_81 : decode cX8_fewest 81 = .ok (.iconst 1, 1) := by decide +kernel
theorem dX8_fewest_82 : decode cX8_fewest 82 = .ok (.goto 4, 3) := by decide +kernel
theorem dX8_fewest_85 : decode cX8_fewest 85 = .ok (.iconst 0, 1) := by decide +kernel
theorem dX8_fewest_86 : decode cX8_fewest 86 = .ok (.istore 7, 2) := by decide +kernel
theorem dX8_fewest_88 : decode cX8_fewest 88 = .ok (.iload 7, 2) := by decide +kernel
theorem dX8_fewest_90 : decode cX8_fewest 90 = .ok (.ifCond .eq 8, 3) := by decide +kernel
theorem dX8_fewest_93 : decode cX8_fewest 93 = .ok (.iload 6, 2) := by decide +kernel
theorem dX8_fewest_95 : decode cX8_fewest 95 = .ok (.goto 5, 3) := by decide +kernel
theorem dX8_fewest_98 : decode cX8_fewest 98 = .ok (.iload 5, 2) := by decide +kernel
theorem dX8_fewest_100 : decode cX8_fewest 100 = .ok (.istore 5, 2) := by decide +kernel
theorem dX8_fewest_102 : decode cX8_fewest 102 = .ok (.iinc 6 1, 3) := by decide +kernel
theorem dX8_fewest_105 : decode cX8_fewest 105 = .ok (.goto (-67), 3) := by decide +kernel
theorem dX8_fewest_108 : decode cX8_fewest 108 = .ok (.iload 5, 2) := by decide +kernel
theorem dX8_fewest_110 : decode cX8_fewest 110 = .ok (.bipush (-5), 2) := by decide +kernel
theorem dX8_fewest_112 : decode cX8_fewest 112 = .ok (.if_icmp .ne 8, 3) := by decide +kernel
theorem dX8_fewest_115 : decode cX8_fewest 115 = .ok (.bipush (-5), 2) := by decide +kernel
theorem dX8_fewest_117 : decode cX8_fewest 117 = .ok (.goto 17, 3) := by decide +kernel
theorem dX8_fewest_120 : decode cX8_fewest 120 = .ok (.iload_n 2, 1) := by decide +kernel
theorem dX8_fewest_121 : decode cX8_fewest 121 = .ok (.ifCond .ne 11, 3) := by decide +kernel
theorem dX8_fewest_124 : decode cX8_fewest 124 = .ok (.iload 5, 2) := by decide +kernel
theorem dX8_fewest_126 : decode cX8_fewest 126 = .ok (.invokestatic 190, 3) := by decide +kernel
theorem dX8_fewest_129 : decode cX8_fewest 129 = .ok (.goto 5, 3) := by decide +kernel
theorem dX8_fewest_132 : decode cX8_fewest 132 = .ok (.iload 5, 2) := by decide +kernel
theorem dX8_fewest_134 : decode cX8_fewest 134 = .ok (.ireturn, 1) := by decide +kernel
theorem dX8_makes_0 : decode cX8_makes 0 = .ok (.aload_n 0, 1) := by decide +kernel
theorem dX8_makes_1 : decode cX8_makes 1 = .ok (.invokevirtual 64, 3) := by decide +kernel
theorem dX8_makes_4 : decode cX8_makes 4 = .ok (.aload_n 0, 1) := by decide +kernel
theorem dX8_makes_5 : decode cX8_makes 5 = .ok (.invokevirtual 187, 3) := by decide +kernel
theorem dX8_makes_8 : decode cX8_makes 8 = .ok (.istore_n 1, 1) := by decide +kernel
theorem dX8_makes_9 : decode cX8_makes 9 = .ok (.iconst 0, 1) := by decide +kernel
theorem dX8_makes_10 : decode cX8_makes 10 = .ok (.istore_n 2, 1) := by decide +kernel
theorem dX8_makes_11 : decode cX8_makes 11 = .ok (.iload_n 2, 1) := by decide +kernel
theorem dX8_makes_12 : decode cX8_makes 12 = .ok (.sipush 6561, 3) := by decide +kernel
theorem dX8_makes_15 : decode cX8_makes 15 = .ok (.if_icmp .ge 16, 3) := by decide +kernel
theorem dX8_makes_18 : decode cX8_makes 18 = .ok (.aload_n 0, 1) := by decide +kernel
theorem dX8_makes_19 : decode cX8_makes 19 = .ok (.getfield 35, 3) := by decide +kernel
theorem dX8_makes_22 : decode cX8_makes 22 = .ok (.iload_n 2, 1) := by decide +kernel
theorem dX8_makes_23 : decode cX8_makes 23 = .ok (.iconst 0, 1) := by decide +kernel
theorem dX8_makes_24 : decode cX8_makes 24 = .ok (.bastore, 1) := by decide +kernel
theorem dX8_makes_25 : decode cX8_makes 25 = .ok (.iinc 2 1, 3) := by decide +kernel
theorem dX8_makes_28 : decode cX8_makes 28 = .ok (.goto (-17), 3) := by decide +kernel
theorem dX8_makes_31 : decode cX8_makes 31 = .ok (.iconst 0, 1) := by decide +kernel
theorem dX8_makes_32 : decode cX8_makes 32 = .ok (.istore_n 2, 1) := by decide +kernel
theorem dX8_makes_33 : decode cX8_makes 33 = .ok (.iconst 0, 1) := by decide +kernel
theorem dX8_makes_34 : decode cX8_makes 34 = .ok (.istore_n 3, 1) := by decide +kernel
theorem dX8_makes_35 : decode cX8_makes 35 = .ok (.iload_n 3, 1) := by decide +kernel
theorem dX8_makes_36 : decode cX8_makes 36 = .ok (.iload_n 1, 1) := by decide +kernel
theorem dX8_makes_37 : decode cX8_makes 37 = .ok (.if_icmp .ge 48, 3) := by decide +kernel
theorem dX8_makes_40 : decode cX8_makes 40 = .ok (.aload_n 0, 1) := by decide +kernel
theorem dX8_makes_41 : decode cX8_makes 41 = .ok (.getfield 29, 3) := by decide +kernel
theorem dX8_makes_44 : decode cX8_makes 44 = .ok (.aload_n 0, 1) := by decide +kernel
theorem dX8_makes_45 : decode cX8_makes 45 = .ok (.getfield 38, 3) := by decide +kernel
theorem dX8_makes_48 : decode cX8_makes 48 = .ok (.iload_n 3, 1) := by decide +kernel
theorem dX8_makes_49 : decode cX8_makes 49 = .ok (.iaload, 1) := by decide +kernel
theorem dX8_makes_50 : decode cX8_makes 50 = .ok (.iaload, 1) := by decide +kernel
theorem dX8_makes_51 : decode cX8_makes 51 = .ok (.istore 4, 2) := by decide +kernel
theorem dX8_makes_53 : decode cX8_makes 53 = .ok (.iload_n 2, 1) := by decide +kernel
theorem dX8_makes_54 : decode cX8_makes 54 = .ok (.aload_n 0, 1) := by decide +kernel
theorem dX8_makes_55 : decode cX8_makes 55 = .ok (.getfield 35, 3) := by decide +kernel
theorem dX8_makes_58 : decode cX8_makes 58 = .ok (.iload 4, 2) := by decide +kernel
theorem dX8_makes_60 : decode cX8_makes 60 = .ok (.baload, 1) := by decide +kernel
theorem dX8_makes_61 : decode cX8_makes 61 = .ok (.ifCond .eq 7, 3) := by decide +kernel
theorem dX8_makes_64 : decode cX8_makes 64 = .ok (.iconst 0, 1) := by decide +kernel
theorem dX8_makes_65 : decode cX8_makes 65 = .ok (.goto 4, 3) := by decide +kernel
theorem dX8_makes_68 : decode cX8_makes 68 = .ok (.iconst 1, 1) := by decide +kernel
theorem dX8_makes_69 : decode cX8_makes 69 = .ok (.iadd, 1) := by decide +kernel
theorem dX8_makes_70 : decode cX8_makes 70 = .ok (.istore_n 2, 1) := by decide +kernel
theorem dX8_makes_71 : decode cX8_makes 71 = .ok (.aload_n 0, 1) := by decide +kernel
theorem dX8_makes_72 : decode cX8_makes 72 = .ok (.getfield 35, 3) := by decide +kernel
theorem dX8_makes_75 : decode cX8_makes 75 = .ok (.iload 4, 2) := by decide +kernel
theorem dX8_makes_77 : decode cX8_makes 77 = .ok (.iconst 1, 1) := by decide +kernel
theorem dX8_makes_78 : decode cX8_makes 78 = .ok (.bastore, 1) := by decide +kernel
theorem dX8_makes_79 : decode cX8_makes 79 = .ok (.iinc 3 1, 3) := by decide +kernel
theorem dX8_makes_82 : decode cX8_makes 82 = .ok (.goto (-47), 3) := by decide +kernel
theorem dX8_makes_85 : decode cX8_makes 85 = .ok (.iload_n 2, 1) := by decide +kernel
theorem dX8_makes_86 : decode cX8_makes 86 = .ok (.ireturn, 1) := by decide +kernel
theorem dX8_needless_0 : decode cX8_needless 0 = .ok (.aload_n 0, 1) := by decide +kernel
theorem dX8_needless_1 : decode cX8_needless 1 = .ok (.invokevirtual 112, 3) := by decide +kernel
theorem dX8_needless_4 : decode cX8_needless 4 = .ok (.istore_n 1, 1) := by decide +kernel
theorem dX8_needless_5 : decode cX8_needless 5 = .ok (.bipush (-5), 2) := by decide +kernel
theorem dX8_needless_7 : decode cX8_needless 7 = .ok (.istore_n 2, 1) := by decide +kernel
theorem dX8_needless_8 : decode cX8_needless 8 = .ok (.iconst 0, 1) := by decide +kernel
theorem dX8_needless_9 : decode cX8_needless 9 = .ok (.istore_n 3, 1) := by decide +kernel
theorem dX8_needless_10 : decode cX8_needless 10 = .ok (.iload_n 3, 1) := by decide +kernel
theorem dX8_needless_11 : decode cX8_needless 11 = .ok (.aload_n 0, 1) := by decide +kernel
theorem dX8_needless_12 : decode cX8_needless 12 = .ok (.getfield 7, 3) := by decide +kernel
theorem dX8_needless_15 : decode cX8_needless 15 = .ok (.bipush 34, 2) := by decide +kernel
theorem dX8_needless_17 : decode cX8_needless 17 = .ok (.iaload, 1) := by decide +kernel
theorem dX8_needless_18 : decode cX8_needless 18 = .ok (.if_icmp .ge 31, 3) := by decide +kernel
theorem dX8_needless_21 : decode cX8_needless 21 = .ok (.iload_n 2, 1) := by decide +kernel
theorem dX8_needless_22 : decode cX8_needless 22 = .ok (.bipush (-5), 2) := by decide +kernel
theorem dX8_needless_24 : decode cX8_needless 24 = .ok (.if_icmp .ne 25, 3) := by decide +kernel
theorem dX8_needless_27 : decode cX8_needless 27 = .ok (.aload_n 0, 1) := by decide +kernel
theorem dX8_needless_28 : decode cX8_needless 28 = .ok (.iload_n 3, 1) := by decide +kernel
theorem dX8_needless_29 : decode cX8_needless 29 = .ok (.invokevirtual 57, 3) := by decide +kernel
theorem dX8_needless_32 : decode cX8_needless 32 = .ok (.iload_n 1, 1) := by decide +kernel
theorem dX8_needless_33 : decode cX8_needless 33 = .ok (.if_icmp .ne 7, 3) := by decide +kernel
theorem dX8_needless_36 : decode cX8_needless 36 = .ok (.iload_n 3, 1) := by decide +kernel
theorem dX8_needless_37 : decode cX8_needless 37 = .ok (.goto 5, 3) := by decide +kernel
theorem dX8_needless_40 : decode cX8_needless 40 = .ok (.bipush (-5), 2) := by decide +kernel
theorem dX8_needless_42 : decode cX8_needless 42 = .ok (.istore_n 2, 1) := by decide +kernel
theorem dX8_needless_43 : decode cX8_needless 43 = .ok (.iinc 3 1, 3) := by decide +kernel
theorem dX8_needless_46 : decode cX8_needless 46 = .ok (.goto (-36), 3) := by decide +kernel
theorem dX8_needless_49 : decode cX8_needless 49 = .ok (.aload_n 0, 1) := by decide +kernel
theorem dX8_needless_50 : decode cX8_needless 50 = .ok (.iconst 0, 1) := by decide +kernel
theorem dX8_needless_51 : decode cX8_needless 51 = .ok (.putfield 45, 3) := by decide +kernel
theorem dX8_needless_54 : decode cX8_needless 54 = .ok (.iload_n 2, 1) := by decide +kernel
theorem dX8_needless_55 : decode cX8_needless 55 = .ok (.ireturn, 1) := by decide +kernel
theorem dX8_ifPoured_0 : decode cX8_ifPoured 0 = .ok (.aload_n 0, 1) := by decide +kernel
theorem dX8_ifPoured_1 : decode cX8_ifPoured 1 = .ok (.iload_n 1, 1) := by decide +kernel
theorem dX8_ifPoured_2 : decode cX8_ifPoured 2 = .ok (.invokevirtual 82, 3) := by decide +kernel
theorem dX8_ifPoured_5 : decode cX8_ifPoured 5 = .ok (.istore_n 3, 1) := by decide +kernel
theorem dX8_ifPoured_6 : decode cX8_ifPoured 6 = .ok (.aload_n 0, 1) := by decide +kernel
theorem dX8_ifPoured_7 : decode cX8_ifPoured 7 = .ok (.iload_n 2, 1) := by decide +kernel
theorem dX8_ifPoured_8 : decode cX8_ifPoured 8 = .ok (.invokevirtual 82, 3) := by decide +kernel
theorem dX8_ifPoured_11 : decode cX8_ifPoured 11 = .ok (.istore 4, 2) := by decide +kernel
theorem dX8_ifPoured_13 : decode cX8_ifPoured 13 = .ok (.iload_n 3, 1) := by decide +kernel
theorem dX8_ifPoured_14 : decode cX8_ifPoured 14 = .ok (.bipush (-5), 2) := by decide +kernel
theorem dX8_ifPoured_16 : decode cX8_ifPoured 16 = .ok (.if_icmp .eq 10, 3) := by decide +kernel
theorem dX8_ifPoured_19 : decode cX8_ifPoured 19 = .ok (.iload 4, 2) := by decide +kernel
theorem dX8_ifPoured_21 : decode cX8_ifPoured 21 = .ok (.bipush (-5), 2) := by decide +kernel
theorem dX8_ifPoured_23 : decode cX8_ifPoured 23 = .ok (.if_icmp .ne 5, 3) := by decide +kernel
theorem dX8_ifPoured_26 : decode cX8_ifPoured 26 = .ok (.iconst (-1), 1) := by decide +kernel
theorem dX8_ifPoured_27 : decode cX8_ifPoured 27 = .ok (.ireturn, 1) := by decide +kernel
theorem dX8_ifPoured_28 : decode cX8_ifPoured 28 = .ok (.iload_n 3, 1) := by decide +kernel
theorem dX8_ifPoured_29 : decode cX8_ifPoured 29 = .ok (.iload 4, 2) := by decide +kernel
theorem dX8_ifPoured_31 : decode cX8_ifPoured 31 = .ok (.if_icmp .ne 8, 3) := by decide +kernel
theorem dX8_ifPoured_34 : decode cX8_ifPoured 34 = .ok (.bipush (-2), 2) := by decide +kernel
theorem dX8_ifPoured_36 : decode cX8_ifPoured 36 = .ok (.goto 21, 3) := by decide +kernel
theorem dX8_ifPoured_39 : decode cX8_ifPoured 39 = .ok (.aload_n 0, 1) := by decide +kernel
theorem dX8_ifPoured_40 : decode cX8_ifPoured 40 = .ok (.aload_n 0, 1) := by decide +kernel
theorem dX8_ifPoured_41 : decode cX8_ifPoured 41 = .ok (.iload_n 3, 1) := by decide +kernel
theorem dX8_ifPoured_42 : decode cX8_ifPoured 42 = .ok (.invokevirtual 76, 3) := by decide +kernel
theorem dX8_ifPoured_45 : decode cX8_ifPoured 45 = .ok (.aload_n 0, 1) := by decide +kernel
theorem dX8_ifPoured_46 : decode cX8_ifPoured 46 = .ok (.iload 4, 2) := by decide +kernel
theorem dX8_ifPoured_48 : decode cX8_ifPoured 48 = .ok (.invokevirtual 76, 3) := by decide +kernel
theorem dX8_ifPoured_51 : decode cX8_ifPoured 51 = .ok (.invokestatic 53, 3) := by decide +kernel
theorem dX8_ifPoured_54 : decode cX8_ifPoured 54 = .ok (.invokevirtual 67, 3) := by decide +kernel
theorem dX8_ifPoured_57 : decode cX8_ifPoured 57 = .ok (.ireturn, 1) := by decide +kernel
