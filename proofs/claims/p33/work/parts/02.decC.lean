theorem dX0_init_0 : decode cX0_init 0 = .ok (.aload_n 0, 1) := by decide +kernel
theorem dX0_init_1 : decode cX0_init 1 = .ok (.invokespecial 3, 3) := by decide +kernel
theorem dX0_init_4 : decode cX0_init 4 = .ok (.aload_n 0, 1) := by decide +kernel
theorem dX0_init_5 : decode cX0_init 5 = .ok (.bipush 8, 2) := by decide +kernel
theorem dX0_init_7 : decode cX0_init 7 = .ok (.newarray .int, 2) := by decide +kernel
theorem dX0_init_9 : decode cX0_init 9 = .ok (.putfield 9, 3) := by decide +kernel
theorem dX0_init_12 : decode cX0_init 12 = .ok (.aload_n 0, 1) := by decide +kernel
theorem dX0_init_13 : decode cX0_init 13 = .ok (.aload_n 1, 1) := by decide +kernel
theorem dX0_init_14 : decode cX0_init 14 = .ok (.putfield 15, 3) := by decide +kernel
theorem dX0_init_17 : decode cX0_init 17 = .ok (.aload_n 0, 1) := by decide +kernel
theorem dX0_init_18 : decode cX0_init 18 = .ok (.aload_n 2, 1) := by decide +kernel
theorem dX0_init_19 : decode cX0_init 19 = .ok (.putfield 19, 3) := by decide +kernel
theorem dX0_init_22 : decode cX0_init 22 = .ok (.aload_n 0, 1) := by decide +kernel
theorem dX0_init_23 : decode cX0_init 23 = .ok (.aload_n 3, 1) := by decide +kernel
theorem dX0_init_24 : decode cX0_init 24 = .ok (.putfield 23, 3) := by decide +kernel
theorem dX0_init_27 : decode cX0_init 27 = .ok (.return_, 1) := by decide +kernel
theorem dX0_bring_0 : decode cX0_bring 0 = .ok (.iload_n 1, 1) := by decide +kernel
theorem dX0_bring_1 : decode cX0_bring 1 = .ok (.invokestatic 27, 3) := by decide +kernel
theorem dX0_bring_4 : decode cX0_bring 4 = .ok (.ifCond .ne 6, 3) := by decide +kernel
theorem dX0_bring_7 : decode cX0_bring 7 = .ok (.bipush (-2), 2) := by decide +kernel
theorem dX0_bring_9 : decode cX0_bring 9 = .ok (.ireturn, 1) := by decide +kernel
theorem dX0_bring_10 : decode cX0_bring 10 = .ok (.iconst 0, 1) := by decide +kernel
theorem dX0_bring_11 : decode cX0_bring 11 = .ok (.istore_n 2, 1) := by decide +kernel
theorem dX0_bring_12 : decode cX0_bring 12 = .ok (.iload_n 2, 1) := by decide +kernel
theorem dX0_bring_13 : decode cX0_bring 13 = .ok (.bipush 8, 2) := by decide +kernel
theorem dX0_bring_15 : decode cX0_bring 15 = .ok (.if_icmp .ge 24, 3) := by decide +kernel
theorem dX0_bring_18 : decode cX0_bring 18 = .ok (.aload_n 0, 1) := by decide +kernel
theorem dX0_bring_19 : decode cX0_bring 19 = .ok (.getfield 9, 3) := by decide +kernel
theorem dX0_bring_22 : decode cX0_bring 22 = .ok (.iload_n 2, 1) := by decide +kernel
theorem dX0_bring_23 : decode cX0_bring 23 = .ok (.iload_n 1, 1) := by decide +kernel
theorem dX0_bring_24 : decode cX0_bring 24 = .ok (.getstatic 31, 3) := by decide +kernel
theorem dX0_bring_27 : decode cX0_bring 27 = .ok (.iload_n 2, 1) := by decide +kernel
theorem dX0_bring_28 : decode cX0_bring 28 = .ok (.iaload, 1) := by decide +kernel
theorem dX0_bring_29 : decode cX0_bring 29 = .ok (.idiv, 1) := by decide +kernel
theorem dX0_bring_30 : decode cX0_bring 30 = .ok (.iconst 3, 1) := by decide +kernel
theorem dX0_bring_31 : decode cX0_bring 31 = .ok (.irem, 1) := by decide +kernel
theorem dX0_bring_32 : decode cX0_bring 32 = .ok (.iastore, 1) := by decide +kernel
theorem dX0_bring_33 : decode cX0_bring 33 = .ok (.iinc 2 1, 3) := by decide +kernel
theorem dX0_bring_36 : decode cX0_bring 36 = .ok (.goto (-24), 3) := by decide +kernel
theorem dX0_bring_39 : decode cX0_bring 39 = .ok (.aload_n 0, 1) := by decide +kernel
theorem dX0_bring_40 : decode cX0_bring 40 = .ok (.aload_n 0, 1) := by decide +kernel
theorem dX0_bring_41 : decode cX0_bring 41 = .ok (.getfield 9, 3) := by decide +kernel
theorem dX0_bring_44 : decode cX0_bring 44 = .ok (.invokevirtual 34, 3) := by decide +kernel
theorem dX0_bring_47 : decode cX0_bring 47 = .ok (.ireturn, 1) := by decide +kernel
theorem dX0_bringUnits_0 : decode cX0_bringUnits 0 = .ok (.aload_n 0, 1) := by decide +kernel
theorem dX0_bringUnits_1 : decode cX0_bringUnits 1 = .ok (.getfield 15, 3) := by decide +kernel
theorem dX0_bringUnits_4 : decode cX0_bringUnits 4 = .ok (.invokevirtual 38, 3) := by decide +kernel
theorem dX0_bringUnits_7 : decode cX0_bringUnits 7 = .ok (.ifCond .ne 6, 3) := by decide +kernel
theorem dX0_bringUnits_10 : decode cX0_bringUnits 10 = .ok (.bipush (-3), 2) := by decide +kernel
theorem dX0_bringUnits_12 : decode cX0_bringUnits 12 = .ok (.ireturn, 1) := by decide +kernel
theorem dX0_bringUnits_13 : decode cX0_bringUnits 13 = .ok (.iconst 0, 1) := by decide +kernel
theorem dX0_bringUnits_14 : decode cX0_bringUnits 14 = .ok (.istore_n 2, 1) := by decide +kernel
theorem dX0_bringUnits_15 : decode cX0_bringUnits 15 = .ok (.iconst 0, 1) := by decide +kernel
theorem dX0_bringUnits_16 : decode cX0_bringUnits 16 = .ok (.istore_n 3, 1) := by decide +kernel
theorem dX0_bringUnits_17 : decode cX0_bringUnits 17 = .ok (.iconst 0, 1) := by decide +kernel
theorem dX0_bringUnits_18 : decode cX0_bringUnits 18 = .ok (.istore 4, 2) := by decide +kernel
theorem dX0_bringUnits_20 : decode cX0_bringUnits 20 = .ok (.iconst 0, 1) := by decide +kernel
theorem dX0_bringUnits_21 : decode cX0_bringUnits 21 = .ok (.istore 5, 2) := by decide +kernel
theorem dX0_bringUnits_23 : decode cX0_bringUnits 23 = .ok (.iload 5, 2) := by decide +kernel
theorem dX0_bringUnits_25 : decode cX0_bringUnits 25 = .ok (.bipush 8, 2) := by decide +kernel
theorem dX0_bringUnits_27 : decode cX0_bringUnits 27 = .ok (.if_icmp .ge 52, 3) := by decide +kernel
theorem dX0_bringUnits_30 : decode cX0_bringUnits 30 = .ok (.iload_n 2, 1) := by decide +kernel
theorem dX0_bringUnits_31 : decode cX0_bringUnits 31 = .ok (.aload_n 1, 1) := by decide +kernel
theorem dX0_bringUnits_32 : decode cX0_bringUnits 32 = .ok (.iload 5, 2) := by decide +kernel
theorem dX0_bringUnits_34 : decode cX0_bringUnits 34 = .ok (.iaload, 1) := by decide +kernel
theorem dX0_bringUnits_35 : decode cX0_bringUnits 35 = .ok (.iconst 3, 1) := by decide +kernel
theorem dX0_bringUnits_36 : decode cX0_bringUnits 36 = .ok (.irem, 1) := by decide +kernel
theorem dX0_bringUnits_37 : decode cX0_bringUnits 37 = .ok (.getstatic 31, 3) := by decide +kernel
theorem dX0_bringUnits_40 : decode cX0_bringUnits 40 = .ok (.iload 5, 2) := by decide +kernel
theorem dX0_bringUnits_42 : decode cX0_bringUnits 42 = .ok (.iaload, 1) := by decide +kernel
theorem dX0_bringUnits_43 : decode cX0_bringUnits 43 = .ok (.imul, 1) := by decide +kernel
theorem dX0_bringUnits_44 : decode cX0_bringUnits 44 = .ok (.iadd, 1) := by decide +kernel
theorem dX0_bringUnits_45 : decode cX0_bringUnits 45 = .ok (.istore_n 2, 1) := by decide +kernel
theorem dX0_bringUnits_46 : decode cX0_bringUnits 46 = .ok (.iload_n 3, 1) := by decide +kernel
theorem dX0_bringUnits_47 : decode cX0_bringUnits 47 = .ok (.aload_n 1, 1) := by decide +kernel
theorem dX0_bringUnits_48 : decode cX0_bringUnits 48 = .ok (.iload 5, 2) := by decide +kernel
theorem dX0_bringUnits_50 : decode cX0_bringUnits 50 = .ok (.iaload, 1) := by decide +kernel
theorem dX0_bringUnits_51 : decode cX0_bringUnits 51 = .ok (.iadd, 1) := by decide +kernel
theorem dX0_bringUnits_52 : decode cX0_bringUnits 52 = .ok (.istore_n 3, 1) := by decide +kernel
theorem dX0_bringUnits_53 : decode cX0_bringUnits 53 = .ok (.iload 4, 2) := by decide +kernel
theorem dX0_bringUnits_55 : decode cX0_bringUnits 55 = .ok (.aload_n 1, 1) := by decide +kernel
theorem dX0_bringUnits_56 : decode cX0_bringUnits 56 = .ok (.iload 5, 2) := by decide +kernel
theorem dX0_bringUnits_58 : decode cX0_bringUnits 58 = .ok (.iaload, 1) := by decide +kernel
theorem dX0_bringUnits_59 : decode cX0_bringUnits 59 = .ok (.aload_n 0, 1) := by decide +kernel
theorem dX0_bringUnits_60 : decode cX0_bringUnits 60 = .ok (.getfield 15, 3) := by decide +kernel
theorem dX0_bringUnits_63 : decode cX0_bringUnits 63 = .ok (.getfield 44, 3) := by decide +kernel
theorem dX0_bringUnits_66 : decode cX0_bringUnits 66 = .ok (.iload 5, 2) := by decide +kernel
theorem dX0_bringUnits_68 : decode cX0_bringUnits 68 = .ok (.iaload, 1) := by decide +kernel
theorem dX0_bringUnits_69 : decode cX0_bringUnits 69 = .ok (.imul, 1) := by decide +kernel
theorem dX0_bringUnits_70 : decode cX0_bringUnits 70 = .ok (.iadd, 1) := by decide +kernel
theorem dX0_bringUnits_71 : decode cX0_bringUnits 71 = .ok (.istore 4, 2) := by decide +kernel
theorem dX0_bringUnits_73 : decode cX0_bringUnits 73 = .ok (.iinc 5 1, 3) := by decide +kernel
theorem dX0_bringUnits_76 : decode cX0_bringUnits 76 = .ok (.goto (-53), 3) := by decide +kernel
theorem dX0_bringUnits_79 : decode cX0_bringUnits 79 = .ok (.aload_n 0, 1) := by decide +kernel
theorem dX0_bringUnits_80 : decode cX0_bringUnits 80 = .ok (.getfield 15, 3) := by decide +kernel
theorem dX0_bringUnits_83 : decode cX0_bringUnits 83 = .ok (.getfield 47, 3) := by decide +kernel
theorem dX0_bringUnits_86 : decode cX0_bringUnits 86 = .ok (.iconst 0, 1) := by decide +kernel
theorem dX0_bringUnits_87 : decode cX0_bringUnits 87 = .ok (.dup2, 1) := by decide +kernel
theorem dX0_bringUnits_88 : decode cX0_bringUnits 88 = .ok (.iaload, 1) := by decide +kernel
theorem dX0_bringUnits_89 : decode cX0_bringUnits 89 = .ok (.iload_n 3, 1) := by decide +kernel
theorem dX0_bringUnits_90 : decode cX0_bringUnits 90 = .ok (.iadd, 1) := by decide +kernel
theorem dX0_bringUnits_91 : decode cX0_bringUnits 91 = .ok (.iastore, 1) := by decide +kernel
theorem dX0_bringUnits_92 : decode cX0_bringUnits 92 = .ok (.aload_n 0, 1) := by decide +kernel
theorem dX0_bringUnits_93 : decode cX0_bringUnits 93 = .ok (.getfield 15, 3) := by decide +kernel
theorem dX0_bringUnits_96 : decode cX0_bringUnits 96 = .ok (.getfield 47, 3) := by decide +kernel
theorem dX0_bringUnits_99 : decode cX0_bringUnits 99 = .ok (.iconst 4, 1) := by decide +kernel
theorem dX0_bringUnits_100 : decode cX0_bringUnits 100 = .ok (.dup2, 1) := by decide +kernel
theorem dX0_bringUnits_101 : decode cX0_bringUnits 101 = .ok (.iaload, 1) := by decide +kernel
theorem dX0_bringUnits_102 : decode cX0_bringUnits 102 = .ok (.iload 4, 2) := by decide +kernel
theorem dX0_bringUnits_104 : decode cX0_bringUnits 104 = .ok (.iadd, 1) := by decide +kernel
theorem dX0_bringUnits_105 : decode cX0_bringUnits 105 = .ok (.iastore, 1) := by decide +kernel
theorem dX0_bringUnits_106 : decode cX0_bringUnits 106 = .ok (.aload_n 0, 1) := by decide +kernel
theorem dX0_bringUnits_107 : decode cX0_bringUnits 107 = .ok (.getfield 15, 3) := by decide +kernel
theorem dX0_bringUnits_110 : decode cX0_bringUnits 110 = .ok (.getfield 47, 3) := by decide +kernel
theorem dX0_bringUnits_113 : decode cX0_bringUnits 113 = .ok (.iconst 1, 1) := by decide +kernel
theorem dX0_bringUnits_114 : decode cX0_bringUnits 114 = .ok (.dup2, 1) := by decide +kernel
theorem dX0_bringUnits_115 : decode cX0_bringUnits 115 = .ok (.iaload, 1) := by decide +kernel
theorem dX0_bringUnits_116 : decode cX0_bringUnits 116 = .ok (.iload_n 3, 1) := by decide +kernel
theorem dX0_bringUnits_117 : decode cX0_bringUnits 117 = .ok (.iload_n 2, 1) := by decide +kernel
theorem dX0_bringUnits_118 : decode cX0_bringUnits 118 = .ok (.invokestatic 50, 3) := by decide +kernel
theorem dX0_bringUnits_121 : decode cX0_bringUnits 121 = .ok (.isub, 1) := by decide +kernel
theorem dX0_bringUnits_122 : decode cX0_bringUnits 122 = .ok (.iadd, 1) := by decide +kernel
theorem dX0_bringUnits_123 : decode cX0_bringUnits 123 = .ok (.iastore, 1) := by decide +kernel
theorem dX0_bringUnits_124 : decode cX0_bringUnits 124 = .ok (.aload_n 0, 1) := by decide +kernel
theorem dX0_bringUnits_125 : decode cX0_bringUnits 125 = .ok (.getfield 15, 3) := by decide +kernel
theorem dX0_bringUnits_128 : decode cX0_bringUnits 128 = .ok (.iload_n 2, 1) := by decide +kernel
theorem dX0_bringUnits_129 : decode cX0_bringUnits 129 = .ok (.invokevirtual 54, 3) := by decide +kernel
theorem dX0_bringUnits_132 : decode cX0_bringUnits 132 = .ok (.ireturn, 1) := by decide +kernel
theorem dX0_pourInto_0 : decode cX0_pourInto 0 = .ok (.aload_n 0, 1) := by decide +kernel
theorem dX0_pourInto_1 : decode cX0_pourInto 1 = .ok (.getfield 15, 3) := by decide +kernel
theorem dX0_pourInto_4 : decode cX0_pourInto 4 = .ok (.iload_n 1, 1) := by decide +kernel
theorem dX0_pourInto_5 : decode cX0_pourInto 5 = .ok (.invokevirtual 57, 3) := by decide +kernel
theorem dX0_pourInto_8 : decode cX0_pourInto 8 = .ok (.istore_n 3, 1) := by decide +kernel
theorem dX0_pourInto_9 : decode cX0_pourInto 9 = .ok (.aload_n 0, 1) := by decide +kernel
theorem dX0_pourInto_10 : decode cX0_pourInto 10 = .ok (.getfield 15, 3) := by decide +kernel
theorem dX0_pourInto_13 : decode cX0_pourInto 13 = .ok (.iload_n 2, 1) := by decide +kernel
theorem dX0_pourInto_14 : decode cX0_pourInto 14 = .ok (.invokevirtual 57, 3) := by decide +kernel
theorem dX0_pourInto_17 : decode cX0_pourInto 17 = .ok (.istore 4, 2) := by decide +kernel
theorem dX0_pourInto_19 : decode cX0_pourInto 19 = .ok (.iload_n 3, 1) := by decide +kernel
theorem dX0_pourInto_20 : decode cX0_pourInto 20 = .ok (.ifCond .lt 8, 3) := by decide +kernel
theorem dX0_pourInto_23 : decode cX0_pourInto 23 = .ok (.iload 4, 2) := by decide +kernel
theorem dX0_pourInto_25 : decode cX0_pourInto 25 = .ok (.ifCond .ge 5, 3) := by decide +kernel
theorem dX0_pourInto_28 : decode cX0_pourInto 28 = .ok (.iconst (-1), 1) := by decide +kernel
theorem dX0_pourInto_29 : decode cX0_pourInto 29 = .ok (.ireturn, 1) := by decide +kernel
theorem dX0_pourInto_30 : decode cX0_pourInto 30 = .ok (.iload_n 3, 1) := by decide +kernel
theorem dX0_pourInto_31 : decode cX0_pourInto 31 = .ok (.iload 4, 2) := by decide +kernel
theorem dX0_pourInto_33 : decode cX0_pourInto 33 = .ok (.if_icmp .ne 6, 3) := by decide +kernel
theorem dX0_pourInto_36 : decode cX0_pourInto 36 = .ok (.bipush (-2), 2) := by decide +kernel
theorem dX0_pourInto_38 : decode cX0_pourInto 38 = .ok (.ireturn, 1) := by decide +kernel
theorem dX0_pourInto_39 : decode cX0_pourInto 39 = .ok (.aload_n 0, 1) := by decide +kernel
theorem dX0_pourInto_40 : decode cX0_pourInto 40 = .ok (.getfield 15, 3) := by decide +kernel
theorem dX0_pourInto_43 : decode cX0_pourInto 43 = .ok (.getfield 60, 3) := by decide +kernel
theorem dX0_pourInto_46 : decode cX0_pourInto 46 = .ok (.iload_n 3, 1) := by decide +kernel
theorem dX0_pourInto_47 : decode cX0_pourInto 47 = .ok (.iaload, 1) := by decide +kernel
theorem dX0_pourInto_48 : decode cX0_pourInto 48 = .ok (.istore 5, 2) := by decide +kernel
theorem dX0_pourInto_50 : decode cX0_pourInto 50 = .ok (.iload 5, 2) := by decide +kernel
theorem dX0_pourInto_52 : decode cX0_pourInto 52 = .ok (.ifCond .ne 6, 3) := by decide +kernel
theorem dX0_pourInto_55 : decode cX0_pourInto 55 = .ok (.bipush (-5), 2) := by decide +kernel
theorem dX0_pourInto_57 : decode cX0_pourInto 57 = .ok (.ireturn, 1) := by decide +kernel
theorem dX0_pourInto_58 : decode cX0_pourInto 58 = .ok (.aload_n 0, 1) := by decide +kernel
theorem dX0_pourInto_59 : decode cX0_pourInto 59 = .ok (.getfield 15, 3) := by decide +kernel
theorem dX0_pourInto_62 : decode cX0_pourInto 62 = .ok (.getfield 60, 3) := by decide +kernel
theorem dX0_pourInto_65 : decode cX0_pourInto 65 = .ok (.iload_n 3, 1) := by decide +kernel
theorem dX0_pourInto_66 : decode cX0_pourInto 66 = .ok (.iconst 0, 1) := by decide +kernel
theorem dX0_pourInto_67 : decode cX0_pourInto 67 = .ok (.iastore, 1) := by decide +kernel
theorem dX0_pourInto_68 : decode cX0_pourInto 68 = .ok (.aload_n 0, 1) := by decide +kernel
theorem dX0_pourInto_69 : decode cX0_pourInto 69 = .ok (.iload 4, 2) := by decide +kernel
theorem dX0_pourInto_71 : decode cX0_pourInto 71 = .ok (.iload 5, 2) := by decide +kernel
theorem dX0_pourInto_73 : decode cX0_pourInto 73 = .ok (.invokevirtual 62, 3) := by decide +kernel
theorem dX0_pourInto_76 : decode cX0_pourInto 76 = .ok (.ireturn, 1) := by decide +kernel
theorem dX0_buyAgain_0 : decode cX0_buyAgain 0 = .ok (.aload_n 0, 1) := by decide +kernel
theorem dX0_buyAgain_1 : decode cX0_buyAgain 1 = .ok (.getfield 15, 3) := by decide +kernel
theorem dX0_buyAgain_4 : decode cX0_buyAgain 4 = .ok (.iload_n 1, 1) := by decide +kernel
theorem dX0_buyAgain_5 : decode cX0_buyAgain 5 = .ok (.invokevirtual 57, 3) := by decide +kernel
theorem dX0_buyAgain_8 : decode cX0_buyAgain 8 = .ok (.istore_n 2, 1) := by decide +kernel
theorem dX0_buyAgain_9 : decode cX0_buyAgain 9 = .ok (.iload_n 2, 1) := by decide +kernel
theorem dX0_buyAgain_10 : decode cX0_buyAgain 10 = .ok (.ifCond .ge 5, 3) := by decide +kernel
theorem dX0_buyAgain_13 : decode cX0_buyAgain 13 = .ok (.iconst (-1), 1) := by decide +kernel
theorem dX0_buyAgain_14 : decode cX0_buyAgain 14 = .ok (.ireturn, 1) := by decide +kernel
theorem dX0_buyAgain_15 : decode cX0_buyAgain 15 = .ok (.aload_n 0, 1) := by decide +kernel
theorem dX0_buyAgain_16 : decode cX0_buyAgain 16 = .ok (.getfield 15, 3) := by decide +kernel
theorem dX0_buyAgain_19 : decode cX0_buyAgain 19 = .ok (.getfield 60, 3) := by decide +kernel
theorem dX0_buyAgain_22 : decode cX0_buyAgain 22 = .ok (.iload_n 2, 1) := by decide +kernel
theorem dX0_buyAgain_23 : decode cX0_buyAgain 23 = .ok (.iaload, 1) := by decide +kernel
theorem dX0_buyAgain_24 : decode cX0_buyAgain 24 = .ok (.istore_n 3, 1) := by decide +kernel
theorem dX0_buyAgain_25 : decode cX0_buyAgain 25 = .ok (.iload_n 3, 1) := by decide +kernel
theorem dX0_buyAgain_26 : decode cX0_buyAgain 26 = .ok (.ifCond .ne 6, 3) := by decide +kernel
theorem dX0_buyAgain_29 : decode cX0_buyAgain 29 = .ok (.bipush (-5), 2) := by decide +kernel
theorem dX0_buyAgain_31 : decode cX0_buyAgain 31 = .ok (.ireturn, 1) := by decide +kernel
theorem dX0_buyAgain_32 : decode cX0_buyAgain 32 = .ok (.aload_n 0, 1) := by decide +kernel
theorem dX0_buyAgain_33 : decode cX0_buyAgain 33 = .ok (.getfield 15, 3) := by decide +kernel
theorem dX0_buyAgain_36 : decode cX0_buyAgain 36 = .ok (.getfield 47, 3) := by decide +kernel
theorem dX0_buyAgain_39 : decode cX0_buyAgain 39 = .ok (.iconst 0, 1) := by decide +kernel
theorem dX0_buyAgain_40 : decode cX0_buyAgain 40 = .ok (.dup2, 1) := by decide +kernel
theorem dX0_buyAgain_41 : decode cX0_buyAgain 41 = .ok (.iaload, 1) := by decide +kernel
theorem dX0_buyAgain_42 : decode cX0_buyAgain 42 = .ok (.iload_n 3, 1) := by decide +kernel
theorem dX0_buyAgain_43 : decode cX0_buyAgain 43 = .ok (.invokestatic 50, 3) := by decide +kernel
theorem dX0_buyAgain_46 : decode cX0_buyAgain 46 = .ok (.iadd, 1) := by decide +kernel
theorem dX0_buyAgain_47 : decode cX0_buyAgain 47 = .ok (.iastore, 1) := by decide +kernel
theorem dX0_buyAgain_48 : decode cX0_buyAgain 48 = .ok (.aload_n 0, 1) := by decide +kernel
theorem dX0_buyAgain_49 : decode cX0_buyAgain 49 = .ok (.getfield 15, 3) := by decide +kernel
theorem dX0_buyAgain_52 : decode cX0_buyAgain 52 = .ok (.getfield 47, 3) := by decide +kernel
theorem dX0_buyAgain_55 : decode cX0_buyAgain 55 = .ok (.iconst 4, 1) := by decide +kernel
theorem dX0_buyAgain_56 : decode cX0_buyAgain 56 = .ok (.dup2, 1) := by decide +kernel
theorem dX0_buyAgain_57 : decode cX0_buyAgain 57 = .ok (.iaload, 1) := by decide +kernel
theorem dX0_buyAgain_58 : decode cX0_buyAgain 58 = .ok (.iload_n 3, 1) := by decide +kernel
theorem dX0_buyAgain_59 : decode cX0_buyAgain 59 = .ok (.aload_n 0, 1) := by decide +kernel
theorem dX0_buyAgain_60 : decode cX0_buyAgain 60 = .ok (.getfield 15, 3) := by decide +kernel
theorem dX0_buyAgain_63 : decode cX0_buyAgain 63 = .ok (.getfield 44, 3) := by decide +kernel
theorem dX0_buyAgain_66 : decode cX0_buyAgain 66 = .ok (.invokestatic 66, 3) := by decide +kernel
theorem dX0_buyAgain_69 : decode cX0_buyAgain 69 = .ok (.iadd, 1) := by decide +kernel
theorem dX0_buyAgain_70 : decode cX0_buyAgain 70 = .ok (.iastore, 1) := by decide +kernel
theorem dX0_buyAgain_71 : decode cX0_buyAgain 71 = .ok (.aload_n 0, 1) := by decide +kernel
theorem dX0_buyAgain_72 : decode cX0_buyAgain 72 = .ok (.iload_n 2, 1) := by decide +kernel
theorem dX0_buyAgain_73 : decode cX0_buyAgain 73 = .ok (.iload_n 3, 1) := by decide +kernel
theorem dX0_buyAgain_74 : decode cX0_buyAgain 74 = .ok (.invokevirtual 62, 3) := by decide +kernel
theorem dX0_buyAgain_77 : decode cX0_buyAgain 77 = .ok (.pop, 1) := by decide +kernel
theorem dX0_buyAgain_78 : decode cX0_buyAgain 78 = .ok (.aload_n 0, 1) := by decide +kernel
theorem dX0_buyAgain_79 : decode cX0_buyAgain 79 = .ok (.getfield 15, 3) := by decide +kernel
theorem dX0_buyAgain_82 : decode cX0_buyAgain 82 = .ok (.getfield 60, 3) := by decide +kernel
theorem dX0_buyAgain_85 : decode cX0_buyAgain 85 = .ok (.iload_n 2, 1) := by decide +kernel
theorem dX0_buyAgain_86 : decode cX0_buyAgain 86 = .ok (.iaload, 1) := by decide +kernel
theorem dX0_buyAgain_87 : decode cX0_buyAgain 87 = .ok (.ireturn, 1) := by decide +kernel
theorem dX0_mixInto_0 : decode cX0_mixInto 0 = .ok (.aload_n 0, 1) := by decide +kernel
theorem dX0_mixInto_1 : decode cX0_mixInto 1 = .ok (.getfield 15, 3) := by decide +kernel
theorem dX0_mixInto_4 : decode cX0_mixInto 4 = .ok (.getfield 60, 3) := by decide +kernel
theorem dX0_mixInto_7 : decode cX0_mixInto 7 = .ok (.iload_n 1, 1) := by decide +kernel
theorem dX0_mixInto_8 : decode cX0_mixInto 8 = .ok (.iaload, 1) := by decide +kernel
theorem dX0_mixInto_9 : decode cX0_mixInto 9 = .ok (.istore_n 3, 1) := by decide +kernel
theorem dX0_mixInto_10 : decode cX0_mixInto 10 = .ok (.aload_n 0, 1) := by decide +kernel
theorem dX0_mixInto_11 : decode cX0_mixInto 11 = .ok (.getfield 19, 3) := by decide +kernel
theorem dX0_mixInto_14 : decode cX0_mixInto 14 = .ok (.iload_n 3, 1) := by decide +kernel
theorem dX0_mixInto_15 : decode cX0_mixInto 15 = .ok (.iload_n 2, 1) := by decide +kernel
theorem dX0_mixInto_16 : decode cX0_mixInto 16 = .ok (.invokevirtual 70, 3) := by decide +kernel
theorem dX0_mixInto_19 : decode cX0_mixInto 19 = .ok (.istore 4, 2) := by decide +kernel
theorem dX0_mixInto_21 : decode cX0_mixInto 21 = .ok (.iload_n 3, 1) := by decide +kernel
theorem dX0_mixInto_22 : decode cX0_mixInto 22 = .ok (.invokestatic 50, 3) := by decide +kernel
theorem dX0_mixInto_25 : decode cX0_mixInto 25 = .ok (.iload_n 2, 1) := by decide +kernel
theorem dX0_mixInto_26 : decode cX0_mixInto 26 = .ok (.invokestatic 50, 3) := by decide +kernel
theorem dX0_mixInto_29 : decode cX0_mixInto 29 = .ok (.iadd, 1) := by decide +kernel
theorem dX0_mixInto_30 : decode cX0_mixInto 30 = .ok (.iload 4, 2) := by decide +kernel
theorem dX0_mixInto_32 : decode cX0_mixInto 32 = .ok (.invokestatic 50, 3) := by decide +kernel
theorem dX0_mixInto_35 : decode cX0_mixInto 35 = .ok (.isub, 1) := by decide +kernel
theorem dX0_mixInto_36 : decode cX0_mixInto 36 = .ok (.istore 5, 2) := by decide +kernel
theorem dX0_mixInto_38 : decode cX0_mixInto 38 = .ok (.aload_n 0, 1) := by decide +kernel
theorem dX0_mixInto_39 : decode cX0_mixInto 39 = .ok (.getfield 15, 3) := by decide +kernel
theorem dX0_mixInto_42 : decode cX0_mixInto 42 = .ok (.getfield 60, 3) := by decide +kernel
theorem dX0_mixInto_45 : decode cX0_mixInto 45 = .ok (.iload_n 1, 1) := by decide +kernel
theorem dX0_mixInto_46 : decode cX0_mixInto 46 = .ok (.iload 4, 2) := by decide +kernel
theorem dX0_mixInto_48 : decode cX0_mixInto 48 = .ok (.iastore, 1) := by decide +kernel
theorem dX0_mixInto_49 : decode cX0_mixInto 49 = .ok (.aload_n 0, 1) := by decide +kernel
theorem dX0_mixInto_50 : decode cX0_mixInto 50 = .ok (.getfield 15, 3) := by decide +kernel
theorem dX0_mixInto_53 : decode cX0_mixInto 53 = .ok (.getfield 47, 3) := by decide +kernel
theorem dX0_mixInto_56 : decode cX0_mixInto 56 = .ok (.iconst 1, 1) := by decide +kernel
theorem dX0_mixInto_57 : decode cX0_mixInto 57 = .ok (.dup2, 1) := by decide +kernel
theorem dX0_mixInto_58 : decode cX0_mixInto 58 = .ok (.iaload, 1) := by decide +kernel
theorem dX0_mixInto_59 : decode cX0_mixInto 59 = .ok (.iload 5, 2) := by decide +kernel
theorem dX0_mixInto_61 : decode cX0_mixInto 61 = .ok (.iadd, 1) := by decide +kernel
theorem dX0_mixInto_62 : decode cX0_mixInto 62 = .ok (.iastore, 1) := by decide +kernel
theorem dX0_mixInto_63 : decode cX0_mixInto 63 = .ok (.iload 5, 2) := by decide +kernel
theorem dX0_mixInto_65 : decode cX0_mixInto 65 = .ok (.ireturn, 1) := by decide +kernel
theorem dX0_throwOut_0 : decode cX0_throwOut 0 = .ok (.aload_n 0, 1) := by decide +kernel
theorem dX0_throwOut_1 : decode cX0_throwOut 1 = .ok (.getfield 15, 3) := by decide +kernel
theorem dX0_throwOut_4 : decode cX0_throwOut 4 = .ok (.iload_n 1, 1) := by decide +kernel
theorem dX0_throwOut_5 : decode cX0_throwOut 5 = .ok (.invokevirtual 57, 3) := by decide +kernel
theorem dX0_throwOut_8 : decode cX0_throwOut 8 = .ok (.istore_n 2, 1) := by decide +kernel
theorem dX0_throwOut_9 : decode cX0_throwOut 9 = .ok (.iload_n 2, 1) := by decide +kernel
theorem dX0_throwOut_10 : decode cX0_throwOut 10 = .ok (.ifCond .ge 5, 3) := by decide +kernel
theorem dX0_throwOut_13 : decode cX0_throwOut 13 = .ok (.iconst (-1), 1) := by decide +kernel
theorem dX0_throwOut_14 : decode cX0_throwOut 14 = .ok (.ireturn, 1) := by decide +kernel
theorem dX0_throwOut_15 : decode cX0_throwOut 15 = .ok (.aload_n 0, 1) := by decide +kernel
theorem dX0_throwOut_16 : decode cX0_throwOut 16 = .ok (.getfield 15, 3) := by decide +kernel
theorem dX0_throwOut_19 : decode cX0_throwOut 19 = .ok (.getfield 60, 3) := by decide +kernel
theorem dX0_throwOut_22 : decode cX0_throwOut 22 = .ok (.iload_n 2, 1) := by decide +kernel
theorem dX0_throwOut_23 : decode cX0_throwOut 23 = .ok (.iaload, 1) := by decide +kernel
theorem dX0_throwOut_24 : decode cX0_throwOut 24 = .ok (.invokestatic 50, 3) := by decide +kernel
theorem dX0_throwOut_27 : decode cX0_throwOut 27 = .ok (.istore_n 3, 1) := by decide +kernel
theorem dX0_throwOut_28 : decode cX0_throwOut 28 = .ok (.aload_n 0, 1) := by decide +kernel
theorem dX0_throwOut_29 : decode cX0_throwOut 29 = .ok (.getfield 15, 3) := by decide +kernel
theorem dX0_throwOut_32 : decode cX0_throwOut 32 = .ok (.getfield 47, 3) := by decide +kernel
theorem dX0_throwOut_35 : decode cX0_throwOut 35 = .ok (.iconst 3, 1) := by decide +kernel
theorem dX0_throwOut_36 : decode cX0_throwOut 36 = .ok (.dup2, 1) := by decide +kernel
theorem dX0_throwOut_37 : decode cX0_throwOut 37 = .ok (.iaload, 1) := by decide +kernel
theorem dX0_throwOut_38 : decode cX0_throwOut 38 = .ok (.iload_n 3, 1) := by decide +kernel
theorem dX0_throwOut_39 : decode cX0_throwOut 39 = .ok (.iadd, 1) := by decide +kernel
theorem dX0_throwOut_40 : decode cX0_throwOut 40 = .ok (.iastore, 1) := by decide +kernel
theorem dX0_throwOut_41 : decode cX0_throwOut 41 = .ok (.aload_n 0, 1) := by decide +kernel
theorem dX0_throwOut_42 : decode cX0_throwOut 42 = .ok (.getfield 15, 3) := by decide +kernel
theorem dX0_throwOut_45 : decode cX0_throwOut 45 = .ok (.iload_n 2, 1) := by decide +kernel
theorem dX0_throwOut_46 : decode cX0_throwOut 46 = .ok (.invokevirtual 75, 3) := by decide +kernel
theorem dX0_throwOut_49 : decode cX0_throwOut 49 = .ok (.iload_n 3, 1) := by decide +kernel
theorem dX0_throwOut_50 : decode cX0_throwOut 50 = .ok (.ireturn, 1) := by decide +kernel
theorem dX0_makeBland_0 : decode cX0_makeBland 0 = .ok (.iload_n 1, 1) := by decide +kernel
theorem dX0_makeBland_1 : decode cX0_makeBland 1 = .ok (.invokestatic 27, 3) := by decide +kernel
theorem dX0_makeBland_4 : decode cX0_makeBland 4 = .ok (.ifCond .ne 6, 3) := by decide +kernel
theorem dX0_makeBland_7 : decode cX0_makeBland 7 = .ok (.bipush (-2), 2) := by decide +kernel
theorem dX0_makeBland_9 : decode cX0_makeBland 9 = .ok (.ireturn, 1) := by decide +kernel
theorem dX0_makeBland_10 : decode cX0_makeBland 10 = .ok (.aload_n 0, 1) := by decide +kernel
theorem dX0_makeBland_11 : decode cX0_makeBland 11 = .ok (.getfield 15, 3) := by decide +kernel
theorem dX0_makeBland_14 : decode cX0_makeBland 14 = .ok (.getfield 79, 3) := by decide +kernel
theorem dX0_makeBland_17 : decode cX0_makeBland 17 = .ok (.bipush 8, 2) := by decide +kernel
theorem dX0_makeBland_19 : decode cX0_makeBland 19 = .ok (.if_icmp .lt 6, 3) := by decide +kernel
theorem dX0_makeBland_22 : decode cX0_makeBland 22 = .ok (.bipush (-3), 2) := by decide +kernel
theorem dX0_makeBland_24 : decode cX0_makeBland 24 = .ok (.ireturn, 1) := by decide +kernel
theorem dX0_makeBland_25 : decode cX0_makeBland 25 = .ok (.aload_n 0, 1) := by decide +kernel
theorem dX0_makeBland_26 : decode cX0_makeBland 26 = .ok (.getfield 15, 3) := by decide +kernel
theorem dX0_makeBland_29 : decode cX0_makeBland 29 = .ok (.getfield 83, 3) := by decide +kernel
theorem dX0_makeBland_32 : decode cX0_makeBland 32 = .ok (.aload_n 0, 1) := by decide +kernel
theorem dX0_makeBland_33 : decode cX0_makeBland 33 = .ok (.getfield 15, 3) := by decide +kernel
theorem dX0_makeBland_36 : decode cX0_makeBland 36 = .ok (.getfield 79, 3) := by decide +kernel
theorem dX0_makeBland_39 : decode cX0_makeBland 39 = .ok (.iload_n 1, 1) := by decide +kernel
theorem dX0_makeBland_40 : decode cX0_makeBland 40 = .ok (.iastore, 1) := by decide +kernel
theorem dX0_makeBland_41 : decode cX0_makeBland 41 = .ok (.aload_n 0, 1) := by decide +kernel
theorem dX0_makeBland_42 : decode cX0_makeBland 42 = .ok (.getfield 15, 3) := by decide +kernel
theorem dX0_makeBland_45 : decode cX0_makeBland 45 = .ok (.dup, 1) := by decide +kernel
theorem dX0_makeBland_46 : decode cX0_makeBland 46 = .ok (.getfield 79, 3) := by decide +kernel
theorem dX0_makeBland_49 : decode cX0_makeBland 49 = .ok (.iconst 1, 1) := by decide +kernel
theorem dX0_makeBland_50 : decode cX0_makeBland 50 = .ok (.iadd, 1) := by decide +kernel
theorem dX0_makeBland_51 : decode cX0_makeBland 51 = .ok (.putfield 79, 3) := by decide +kernel
theorem dX0_makeBland_54 : decode cX0_makeBland 54 = .ok (.aload_n 0, 1) := by decide +kernel
theorem dX0_makeBland_55 : decode cX0_makeBland 55 = .ok (.getfield 15, 3) := by decide +kernel
theorem dX0_makeBland_58 : decode cX0_makeBland 58 = .ok (.getfield 79, 3) := by decide +kernel
theorem dX0_makeBland_61 : decode cX0_makeBland 61 = .ok (.ireturn, 1) := by decide +kernel
theorem dX0_dropRule_0 : decode cX0_dropRule 0 = .ok (.iload_n 1, 1) := by decide +kernel
theorem dX0_dropRule_1 : decode cX0_dropRule 1 = .ok (.ifCond .lt 14, 3) := by decide +kernel
theorem dX0_dropRule_4 : decode cX0_dropRule 4 = .ok (.iload_n 1, 1) := by decide +kernel
theorem dX0_dropRule_5 : decode cX0_dropRule 5 = .ok (.aload_n 0, 1) := by decide +kernel
theorem dX0_dropRule_6 : decode cX0_dropRule 6 = .ok (.getfield 15, 3) := by decide +kernel
theorem dX0_dropRule_9 : decode cX0_dropRule 9 = .ok (.getfield 79, 3) := by decide +kernel
theorem dX0_dropRule_12 : decode cX0_dropRule 12 = .ok (.if_icmp .lt 5, 3) := by decide +kernel
theorem dX0_dropRule_15 : decode cX0_dropRule 15 = .ok (.iconst (-1), 1) := by decide +kernel
theorem dX0_dropRule_16 : decode cX0_dropRule 16 = .ok (.ireturn, 1) := by decide +kernel
theorem dX0_dropRule_17 : decode cX0_dropRule 17 = .ok (.aload_n 0, 1) := by decide +kernel
theorem dX0_dropRule_18 : decode cX0_dropRule 18 = .ok (.getfield 15, 3) := by decide +kernel
theorem dX0_dropRule_21 : decode cX0_dropRule 21 = .ok (.iload_n 1, 1) := by decide +kernel
theorem dX0_dropRule_22 : decode cX0_dropRule 22 = .ok (.invokevirtual 86, 3) := by decide +kernel
theorem dX0_dropRule_25 : decode cX0_dropRule 25 = .ok (.aload_n 0, 1) := by decide +kernel
theorem dX0_dropRule_26 : decode cX0_dropRule 26 = .ok (.getfield 15, 3) := by decide +kernel
theorem dX0_dropRule_29 : decode cX0_dropRule 29 = .ok (.getfield 79, 3) := by decide +kernel
theorem dX0_dropRule_32 : decode cX0_dropRule 32 = .ok (.ireturn, 1) := by decide +kernel
theorem dX0_setPrice_0 : decode cX0_setPrice 0 = .ok (.iload_n 1, 1) := by decide +kernel
theorem dX0_setPrice_1 : decode cX0_setPrice 1 = .ok (.ifCond .lt 9, 3) := by decide +kernel
theorem dX0_setPrice_4 : decode cX0_setPrice 4 = .ok (.iload_n 1, 1) := by decide +kernel
theorem dX0_setPrice_5 : decode cX0_setPrice 5 = .ok (.bipush 8, 2) := by decide +kernel
theorem dX0_setPrice_7 : decode cX0_setPrice 7 = .ok (.if_icmp .lt 5, 3) := by decide +kernel
theorem dX0_setPrice_10 : decode cX0_setPrice 10 = .ok (.iconst (-1), 1) := by decide +kernel
theorem dX0_setPrice_11 : decode cX0_setPrice 11 = .ok (.ireturn, 1) := by decide +kernel
theorem dX0_setPrice_12 : decode cX0_setPrice 12 = .ok (.iload_n 2, 1) := by decide +kernel
theorem dX0_setPrice_13 : decode cX0_setPrice 13 = .ok (.ifCond .lt 9, 3) := by decide +kernel
theorem dX0_setPrice_16 : decode cX0_setPrice 16 = .ok (.iload_n 2, 1) := by decide +kernel
theorem dX0_setPrice_17 : decode cX0_setPrice 17 = .ok (.bipush 99, 2) := by decide +kernel
theorem dX0_setPrice_19 : decode cX0_setPrice 19 = .ok (.if_icmp .le 6, 3) := by decide +kernel
theorem dX0_setPrice_22 : decode cX0_setPrice 22 = .ok (.bipush (-2), 2) := by decide +kernel
theorem dX0_setPrice_24 : decode cX0_setPrice 24 = .ok (.ireturn, 1) := by decide +kernel
theorem dX0_setPrice_25 : decode cX0_setPrice 25 = .ok (.aload_n 0, 1) := by decide +kernel
theorem dX0_setPrice_26 : decode cX0_setPrice 26 = .ok (.getfield 15, 3) := by decide +kernel
theorem dX0_setPrice_29 : decode cX0_setPrice 29 = .ok (.getfield 44, 3) := by decide +kernel
theorem dX0_setPrice_32 : decode cX0_setPrice 32 = .ok (.iload_n 1, 1) := by decide +kernel
theorem dX0_setPrice_33 : decode cX0_setPrice 33 = .ok (.iaload, 1) := by decide +kernel
theorem dX0_setPrice_34 : decode cX0_setPrice 34 = .ok (.istore_n 3, 1) := by decide +kernel
theorem dX0_setPrice_35 : decode cX0_setPrice 35 = .ok (.iload_n 3, 1) := by decide +kernel
theorem dX0_setPrice_36 : decode cX0_setPrice 36 = .ok (.iload_n 2, 1) := by decide +kernel
theorem dX0_setPrice_37 : decode cX0_setPrice 37 = .ok (.if_icmp .ne 6, 3) := by decide +kernel
theorem dX0_setPrice_40 : decode cX0_setPrice 40 = .ok (.bipush (-5), 2) := by decide +kernel
theorem dX0_setPrice_42 : decode cX0_setPrice 42 = .ok (.ireturn, 1) := by decide +kernel
theorem dX0_setPrice_43 : decode cX0_setPrice 43 = .ok (.aload_n 0, 1) := by decide +kernel
theorem dX0_setPrice_44 : decode cX0_setPrice 44 = .ok (.getfield 15, 3) := by decide +kernel
theorem dX0_setPrice_47 : decode cX0_setPrice 47 = .ok (.getfield 44, 3) := by decide +kernel
theorem dX0_setPrice_50 : decode cX0_setPrice 50 = .ok (.iload_n 1, 1) := by decide +kernel
theorem dX0_setPrice_51 : decode cX0_setPrice 51 = .ok (.iload_n 2, 1) := by decide +kernel
theorem dX0_setPrice_52 : decode cX0_setPrice 52 = .ok (.iastore, 1) := by decide +kernel
theorem dX0_setPrice_53 : decode cX0_setPrice 53 = .ok (.iload_n 3, 1) := by decide +kernel
theorem dX0_setPrice_54 : decode cX0_setPrice 54 = .ok (.ireturn, 1) := by decide +kernel
theorem dX0_welcome_0 : decode cX0_welcome 0 = .ok (.iload_n 1, 1) := by decide +kernel
theorem dX0_welcome_1 : decode cX0_welcome 1 = .ok (.invokestatic 27, 3) := by decide +kernel
theorem dX0_welcome_4 : decode cX0_welcome 4 = .ok (.ifCond .ne 6, 3) := by decide +kernel
theorem dX0_welcome_7 : decode cX0_welcome 7 = .ok (.bipush (-2), 2) := by decide +kernel
theorem dX0_welcome_9 : decode cX0_welcome 9 = .ok (.ireturn, 1) := by decide +kernel
theorem dX0_welcome_10 : decode cX0_welcome 10 = .ok (.aload_n 0, 1) := by decide +kernel
theorem dX0_welcome_11 : decode cX0_welcome 11 = .ok (.getfield 15, 3) := by decide +kernel
theorem dX0_welcome_14 : decode cX0_welcome 14 = .ok (.getfield 89, 3) := by decide +kernel
theorem dX0_welcome_17 : decode cX0_welcome 17 = .ok (.bipush 8, 2) := by decide +kernel
theorem dX0_welcome_19 : decode cX0_welcome 19 = .ok (.if_icmp .lt 6, 3) := by decide +kernel
theorem dX0_welcome_22 : decode cX0_welcome 22 = .ok (.bipush (-3), 2) := by decide +kernel
theorem dX0_welcome_24 : decode cX0_welcome 24 = .ok (.ireturn, 1) := by decide +kernel
theorem dX0_welcome_25 : decode cX0_welcome 25 = .ok (.aload_n 0, 1) := by decide +kernel
theorem dX0_welcome_26 : decode cX0_welcome 26 = .ok (.getfield 15, 3) := by decide +kernel
theorem dX0_welcome_29 : decode cX0_welcome 29 = .ok (.getfield 92, 3) := by decide +kernel
theorem dX0_welcome_32 : decode cX0_welcome 32 = .ok (.aload_n 0, 1) := by decide +kernel
theorem dX0_welcome_33 : decode cX0_welcome 33 = .ok (.getfield 15, 3) := by decide +kernel
theorem dX0_welcome_36 : decode cX0_welcome 36 = .ok (.getfield 89, 3) := by decide +kernel
theorem dX0_welcome_39 : decode cX0_welcome 39 = .ok (.iload_n 1, 1) := by decide +kernel
theorem dX0_welcome_40 : decode cX0_welcome 40 = .ok (.iastore, 1) := by decide +kernel
theorem dX0_welcome_41 : decode cX0_welcome 41 = .ok (.aload_n 0, 1) := by decide +kernel
theorem dX0_welcome_42 : decode cX0_welcome 42 = .ok (.getfield 15, 3) := by decide +kernel
theorem dX0_welcome_45 : decode cX0_welcome 45 = .ok (.dup, 1) := by decide +kernel
theorem dX0_welcome_46 : decode cX0_welcome 46 = .ok (.getfield 89, 3) := by decide +kernel
theorem dX0_welcome_49 : decode cX0_welcome 49 = .ok (.iconst 1, 1) := by decide +kernel
theorem dX0_welcome_50 : decode cX0_welcome 50 = .ok (.iadd, 1) := by decide +kernel
theorem dX0_welcome_51 : decode cX0_welcome 51 = .ok (.putfield 89, 3) := by decide +kernel
theorem dX0_welcome_54 : decode cX0_welcome 54 = .ok (.aload_n 0, 1) := by decide +kernel
theorem dX0_welcome_55 : decode cX0_welcome 55 = .ok (.getfield 15, 3) := by decide +kernel
theorem dX0_welcome_58 : decode cX0_welcome 58 = .ok (.getfield 89, 3) := by decide +kernel
theorem dX0_welcome_61 : decode cX0_welcome 61 = .ok (.ireturn, 1) := by decide +kernel
theorem dX0_serveFirst_0 : decode cX0_serveFirst 0 = .ok (.aload_n 0, 1) := by decide +kernel
theorem dX0_serveFirst_1 : decode cX0_serveFirst 1 = .ok (.getfield 15, 3) := by decide +kernel
theorem dX0_serveFirst_4 : decode cX0_serveFirst 4 = .ok (.getfield 89, 3) := by decide +kernel
theorem dX0_serveFirst_7 : decode cX0_serveFirst 7 = .ok (.ifCond .ne 6, 3) := by decide +kernel
theorem dX0_serveFirst_10 : decode cX0_serveFirst 10 = .ok (.bipush (-5), 2) := by decide +kernel
theorem dX0_serveFirst_12 : decode cX0_serveFirst 12 = .ok (.ireturn, 1) := by decide +kernel
theorem dX0_serveFirst_13 : decode cX0_serveFirst 13 = .ok (.aload_n 0, 1) := by decide +kernel
theorem dX0_serveFirst_14 : decode cX0_serveFirst 14 = .ok (.getfield 15, 3) := by decide +kernel
theorem dX0_serveFirst_17 : decode cX0_serveFirst 17 = .ok (.invokevirtual 95, 3) := by decide +kernel
theorem dX0_serveFirst_20 : decode cX0_serveFirst 20 = .ok (.istore_n 1, 1) := by decide +kernel
theorem dX0_serveFirst_21 : decode cX0_serveFirst 21 = .ok (.aload_n 0, 1) := by decide +kernel
theorem dX0_serveFirst_22 : decode cX0_serveFirst 22 = .ok (.getfield 23, 3) := by decide +kernel
theorem dX0_serveFirst_25 : decode cX0_serveFirst 25 = .ok (.aload_n 0, 1) := by decide +kernel
theorem dX0_serveFirst_26 : decode cX0_serveFirst 26 = .ok (.getfield 15, 3) := by decide +kernel
theorem dX0_serveFirst_29 : decode cX0_serveFirst 29 = .ok (.invokevirtual 99, 3) := by decide +kernel
theorem dX0_serveFirst_32 : decode cX0_serveFirst 32 = .ok (.aload_n 0, 1) := by decide +kernel
theorem dX0_serveFirst_33 : decode cX0_serveFirst 33 = .ok (.getfield 23, 3) := by decide +kernel
theorem dX0_serveFirst_36 : decode cX0_serveFirst 36 = .ok (.aload_n 0, 1) := by decide +kernel
theorem dX0_serveFirst_37 : decode cX0_serveFirst 37 = .ok (.getfield 23, 3) := by decide +kernel
theorem dX0_serveFirst_40 : decode cX0_serveFirst 40 = .ok (.iload_n 1, 1) := by decide +kernel
theorem dX0_serveFirst_41 : decode cX0_serveFirst 41 = .ok (.invokevirtual 105, 3) := by decide +kernel
theorem dX0_serveFirst_44 : decode cX0_serveFirst 44 = .ok (.aload_n 0, 1) := by decide +kernel
theorem dX0_serveFirst_45 : decode cX0_serveFirst 45 = .ok (.getfield 15, 3) := by decide +kernel
theorem dX0_serveFirst_48 : decode cX0_serveFirst 48 = .ok (.invokevirtual 108, 3) := by decide +kernel
theorem dX0_serveFirst_51 : decode cX0_serveFirst 51 = .ok (.istore_n 2, 1) := by decide +kernel
theorem dX0_serveFirst_52 : decode cX0_serveFirst 52 = .ok (.iload_n 2, 1) := by decide +kernel
theorem dX0_serveFirst_53 : decode cX0_serveFirst 53 = .ok (.ifCond .ge 19, 3) := by decide +kernel
theorem dX0_serveFirst_56 : decode cX0_serveFirst 56 = .ok (.aload_n 0, 1) := by decide +kernel
theorem dX0_serveFirst_57 : decode cX0_serveFirst 57 = .ok (.getfield 15, 3) := by decide +kernel
theorem dX0_serveFirst_60 : decode cX0_serveFirst 60 = .ok (.getfield 47, 3) := by decide +kernel
theorem dX0_serveFirst_63 : decode cX0_serveFirst 63 = .ok (.bipush 7, 2) := by decide +kernel
theorem dX0_serveFirst_65 : decode cX0_serveFirst 65 = .ok (.dup2, 1) := by decide +kernel
theorem dX0_serveFirst_66 : decode cX0_serveFirst 66 = .ok (.iaload, 1) := by decide +kernel
theorem dX0_serveFirst_67 : decode cX0_serveFirst 67 = .ok (.iconst 1, 1) := by decide +kernel
theorem dX0_serveFirst_68 : decode cX0_serveFirst 68 = .ok (.iadd, 1) := by decide +kernel
theorem dX0_serveFirst_69 : decode cX0_serveFirst 69 = .ok (.iastore, 1) := by decide +kernel
theorem dX0_serveFirst_70 : decode cX0_serveFirst 70 = .ok (.iconst 0, 1) := by decide +kernel
theorem dX0_serveFirst_71 : decode cX0_serveFirst 71 = .ok (.ireturn, 1) := by decide +kernel
theorem dX0_serveFirst_72 : decode cX0_serveFirst 72 = .ok (.aload_n 0, 1) := by decide +kernel
theorem dX0_serveFirst_73 : decode cX0_serveFirst 73 = .ok (.iload_n 2, 1) := by decide +kernel
theorem dX0_serveFirst_74 : decode cX0_serveFirst 74 = .ok (.invokevirtual 112, 3) := by decide +kernel
theorem dX0_serveFirst_77 : decode cX0_serveFirst 77 = .ok (.ireturn, 1) := by decide +kernel
theorem dX0_sell_0 : decode cX0_sell 0 = .ok (.aload_n 0, 1) := by decide +kernel
theorem dX0_sell_1 : decode cX0_sell 1 = .ok (.getfield 15, 3) := by decide +kernel
theorem dX0_sell_4 : decode cX0_sell 4 = .ok (.getfield 60, 3) := by decide +kernel
theorem dX0_sell_7 : decode cX0_sell 7 = .ok (.iload_n 1, 1) := by decide +kernel
theorem dX0_sell_8 : decode cX0_sell 8 = .ok (.iaload, 1) := by decide +kernel
theorem dX0_sell_9 : decode cX0_sell 9 = .ok (.istore_n 2, 1) := by decide +kernel
theorem dX0_sell_10 : decode cX0_sell 10 = .ok (.iload_n 2, 1) := by decide +kernel
theorem dX0_sell_11 : decode cX0_sell 11 = .ok (.aload_n 0, 1) := by decide +kernel
theorem dX0_sell_12 : decode cX0_sell 12 = .ok (.getfield 15, 3) := by decide +kernel
theorem dX0_sell_15 : decode cX0_sell 15 = .ok (.getfield 44, 3) := by decide +kernel
theorem dX0_sell_18 : decode cX0_sell 18 = .ok (.invokestatic 66, 3) := by decide +kernel
theorem dX0_sell_21 : decode cX0_sell 21 = .ok (.istore_n 3, 1) := by decide +kernel
theorem dX0_sell_22 : decode cX0_sell 22 = .ok (.iload_n 3, 1) := by decide +kernel
theorem dX0_sell_23 : decode cX0_sell 23 = .ok (.iload_n 3, 1) := by decide +kernel
theorem dX0_sell_24 : decode cX0_sell 24 = .ok (.iconst 2, 1) := by decide +kernel
theorem dX0_sell_25 : decode cX0_sell 25 = .ok (.idiv, 1) := by decide +kernel
theorem dX0_sell_26 : decode cX0_sell 26 = .ok (.iadd, 1) := by decide +kernel
theorem dX0_sell_27 : decode cX0_sell 27 = .ok (.istore 4, 2) := by decide +kernel
theorem dX0_sell_29 : decode cX0_sell 29 = .ok (.aload_n 0, 1) := by decide +kernel
theorem dX0_sell_30 : decode cX0_sell 30 = .ok (.getfield 15, 3) := by decide +kernel
theorem dX0_sell_33 : decode cX0_sell 33 = .ok (.getfield 47, 3) := by decide +kernel
theorem dX0_sell_36 : decode cX0_sell 36 = .ok (.iconst 2, 1) := by decide +kernel
theorem dX0_sell_37 : decode cX0_sell 37 = .ok (.dup2, 1) := by decide +kernel
theorem dX0_sell_38 : decode cX0_sell 38 = .ok (.iaload, 1) := by decide +kernel
theorem dX0_sell_39 : decode cX0_sell 39 = .ok (.iload_n 2, 1) := by decide +kernel
theorem dX0_sell_40 : decode cX0_sell 40 = .ok (.invokestatic 50, 3) := by decide +kernel
theorem dX0_sell_43 : decode cX0_sell 43 = .ok (.iadd, 1) := by decide +kernel
theorem dX0_sell_44 : decode cX0_sell 44 = .ok (.iastore, 1) := by decide +kernel
theorem dX0_sell_45 : decode cX0_sell 45 = .ok (.aload_n 0, 1) := by decide +kernel
theorem dX0_sell_46 : decode cX0_sell 46 = .ok (.getfield 15, 3) := by decide +kernel
theorem dX0_sell_49 : decode cX0_sell 49 = .ok (.getfield 47, 3) := by decide +kernel
theorem dX0_sell_52 : decode cX0_sell 52 = .ok (.iconst 5, 1) := by decide +kernel
theorem dX0_sell_53 : decode cX0_sell 53 = .ok (.dup2, 1) := by decide +kernel
theorem dX0_sell_54 : decode cX0_sell 54 = .ok (.iaload, 1) := by decide +kernel
theorem dX0_sell_55 : decode cX0_sell 55 = .ok (.iload 4, 2) := by decide +kernel
theorem dX0_sell_57 : decode cX0_sell 57 = .ok (.iadd, 1) := by decide +kernel
theorem dX0_sell_58 : decode cX0_sell 58 = .ok (.iastore, 1) := by decide +kernel
theorem dX0_sell_59 : decode cX0_sell 59 = .ok (.aload_n 0, 1) := by decide +kernel
theorem dX0_sell_60 : decode cX0_sell 60 = .ok (.getfield 15, 3) := by decide +kernel
theorem dX0_sell_63 : decode cX0_sell 63 = .ok (.getfield 47, 3) := by decide +kernel
theorem dX0_sell_66 : decode cX0_sell 66 = .ok (.bipush 6, 2) := by decide +kernel
theorem dX0_sell_68 : decode cX0_sell 68 = .ok (.dup2, 1) := by decide +kernel
theorem dX0_sell_69 : decode cX0_sell 69 = .ok (.iaload, 1) := by decide +kernel
theorem dX0_sell_70 : decode cX0_sell 70 = .ok (.iconst 1, 1) := by decide +kernel
theorem dX0_sell_71 : decode cX0_sell 71 = .ok (.iadd, 1) := by decide +kernel
theorem dX0_sell_72 : decode cX0_sell 72 = .ok (.iastore, 1) := by decide +kernel
theorem dX0_sell_73 : decode cX0_sell 73 = .ok (.aload_n 0, 1) := by decide +kernel
theorem dX0_sell_74 : decode cX0_sell 74 = .ok (.getfield 15, 3) := by decide +kernel
theorem dX0_sell_77 : decode cX0_sell 77 = .ok (.iload_n 1, 1) := by decide +kernel
theorem dX0_sell_78 : decode cX0_sell 78 = .ok (.invokevirtual 75, 3) := by decide +kernel
theorem dX0_sell_81 : decode cX0_sell 81 = .ok (.iload 4, 2) := by decide +kernel
theorem dX0_sell_83 : decode cX0_sell 83 = .ok (.ireturn, 1) := by decide +kernel
theorem dX1_init_0 : decode cX1_init 0 = .ok (.aload_n 0, 1) := by decide +kernel
theorem dX1_init_1 : decode cX1_init 1 = .ok (.invokespecial 3, 3) := by decide +kernel
theorem dX1_init_4 : decode cX1_init 4 = .ok (.aload_n 0, 1) := by decide +kernel
theorem dX1_init_5 : decode cX1_init 5 = .ok (.sipush 4096, 3) := by decide +kernel
theorem dX1_init_8 : decode cX1_init 8 = .ok (.newarray .short, 2) := by decide +kernel
theorem dX1_init_10 : decode cX1_init 10 = .ok (.putfield 9, 3) := by decide +kernel
theorem dX1_init_13 : decode cX1_init 13 = .ok (.aload_n 0, 1) := by decide +kernel
theorem dX1_init_14 : decode cX1_init 14 = .ok (.iconst 1, 1) := by decide +kernel
theorem dX1_init_15 : decode cX1_init 15 = .ok (.putfield 15, 3) := by decide +kernel
theorem dX1_init_18 : decode cX1_init 18 = .ok (.aload_n 0, 1) := by decide +kernel
theorem dX1_init_19 : decode cX1_init 19 = .ok (.sipush 206, 3) := by decide +kernel
theorem dX1_init_22 : decode cX1_init 22 = .ok (.newarray .int, 2) := by decide +kernel
theorem dX1_init_24 : decode cX1_init 24 = .ok (.putfield 19, 3) := by decide +kernel
theorem dX1_init_27 : decode cX1_init 27 = .ok (.aload_n 0, 1) := by decide +kernel
theorem dX1_init_28 : decode cX1_init 28 = .ok (.aload_n 1, 1) := by decide +kernel
theorem dX1_init_29 : decode cX1_init 29 = .ok (.putfield 23, 3) := by decide +kernel
theorem dX1_init_32 : decode cX1_init 32 = .ok (.return_, 1) := by decide +kernel
theorem dX1_spread_0 : decode cX1_spread 0 = .ok (.aload_n 0, 1) := by decide +kernel
theorem dX1_spread_1 : decode cX1_spread 1 = .ok (.getfield 9, 3) := by decide +kernel
theorem dX1_spread_4 : decode cX1_spread 4 = .ok (.iconst 0, 1) := by decide +kernel
theorem dX1_spread_5 : decode cX1_spread 5 = .ok (.iconst 0, 1) := by decide +kernel
theorem dX1_spread_6 : decode cX1_spread 6 = .ok (.sastore, 1) := by decide +kernel
theorem dX1_spread_7 : decode cX1_spread 7 = .ok (.aload_n 0, 1) := by decide +kernel
theorem dX1_spread_8 : decode cX1_spread 8 = .ok (.iconst 1, 1) := by decide +kernel
theorem dX1_spread_9 : decode cX1_spread 9 = .ok (.putfield 15, 3) := by decide +kernel
theorem dX1_spread_12 : decode cX1_spread 12 = .ok (.iconst 0, 1) := by decide +kernel
theorem dX1_spread_13 : decode cX1_spread 13 = .ok (.istore_n 3, 1) := by decide +kernel
theorem dX1_spread_14 : decode cX1_spread 14 = .ok (.iload_n 3, 1) := by decide +kernel
theorem dX1_spread_15 : decode cX1_spread 15 = .ok (.aload_n 2, 1) := by decide +kernel
theorem dX1_spread_16 : decode cX1_spread 16 = .ok (.getfield 27, 3) := by decide +kernel
theorem dX1_spread_19 : decode cX1_spread 19 = .ok (.if_icmp .ge 78, 3) := by decide +kernel
theorem dX1_spread_22 : decode cX1_spread 22 = .ok (.aload_n 1, 1) := by decide +kernel
theorem dX1_spread_23 : decode cX1_spread 23 = .ok (.aload_n 2, 1) := by decide +kernel
theorem dX1_spread_24 : decode cX1_spread 24 = .ok (.getfield 32, 3) := by decide +kernel
theorem dX1_spread_27 : decode cX1_spread 27 = .ok (.iload_n 3, 1) := by decide +kernel
theorem dX1_spread_28 : decode cX1_spread 28 = .ok (.iaload, 1) := by decide +kernel
theorem dX1_spread_29 : decode cX1_spread 29 = .ok (.invokevirtual 34, 3) := by decide +kernel
theorem dX1_spread_32 : decode cX1_spread 32 = .ok (.istore 4, 2) := by decide +kernel
theorem dX1_spread_34 : decode cX1_spread 34 = .ok (.iconst 0, 1) := by decide +kernel
theorem dX1_spread_35 : decode cX1_spread 35 = .ok (.istore 5, 2) := by decide +kernel
theorem dX1_spread_37 : decode cX1_spread 37 = .ok (.iload 5, 2) := by decide +kernel
theorem dX1_spread_39 : decode cX1_spread 39 = .ok (.aload_n 0, 1) := by decide +kernel
theorem dX1_spread_40 : decode cX1_spread 40 = .ok (.getfield 15, 3) := by decide +kernel
theorem dX1_spread_43 : decode cX1_spread 43 = .ok (.if_icmp .ge 38, 3) := by decide +kernel
theorem dX1_spread_46 : decode cX1_spread 46 = .ok (.aload_n 0, 1) := by decide +kernel
theorem dX1_spread_47 : decode cX1_spread 47 = .ok (.getfield 9, 3) := by decide +kernel
theorem dX1_spread_50 : decode cX1_spread 50 = .ok (.aload_n 0, 1) := by decide +kernel
theorem dX1_spread_51 : decode cX1_spread 51 = .ok (.getfield 15, 3) := by decide +kernel
theorem dX1_spread_54 : decode cX1_spread 54 = .ok (.iload 5, 2) := by decide +kernel
theorem dX1_spread_56 : decode cX1_spread 56 = .ok (.iadd, 1) := by decide +kernel
theorem dX1_spread_57 : decode cX1_spread 57 = .ok (.aload_n 0, 1) := by decide +kernel
theorem dX1_spread_58 : decode cX1_spread 58 = .ok (.getfield 23, 3) := by decide +kernel
theorem dX1_spread_61 : decode cX1_spread 61 = .ok (.aload_n 0, 1) := by decide +kernel
theorem dX1_spread_62 : decode cX1_spread 62 = .ok (.getfield 9, 3) := by decide +kernel
theorem dX1_spread_65 : decode cX1_spread 65 = .ok (.iload 5, 2) := by decide +kernel
theorem dX1_spread_67 : decode cX1_spread 67 = .ok (.saload, 1) := by decide +kernel
theorem dX1_spread_68 : decode cX1_spread 68 = .ok (.iload 4, 2) := by decide +kernel
theorem dX1_spread_70 : decode cX1_spread 70 = .ok (.invokevirtual 40, 3) := by decide +kernel
theorem dX1_spread_73 : decode cX1_spread 73 = .ok (.i2s, 1) := by decide +kernel
theorem dX1_spread_74 : decode cX1_spread 74 = .ok (.sastore, 1) := by decide +kernel
theorem dX1_spread_75 : decode cX1_spread 75 = .ok (.iinc 5 1, 3) := by decide +kernel
theorem dX1_spread_78 : decode cX1_spread 78 = .ok (.goto (-41), 3) := by decide +kernel
theorem dX1_spread_81 : decode cX1_spread 81 = .ok (.aload_n 0, 1) := by decide +kernel
theorem dX1_spread_82 : decode cX1_spread 82 = .ok (.iconst 2, 1) := by decide +kernel
theorem dX1_spread_83 : decode cX1_spread 83 = .ok (.aload_n 0, 1) := by decide +kernel
theorem dX1_spread_84 : decode cX1_spread 84 = .ok (.getfield 15, 3) := by decide +kernel
theorem dX1_spread_87 : decode cX1_spread 87 = .ok (.imul, 1) := by decide +kernel
theorem dX1_spread_88 : decode cX1_spread 88 = .ok (.putfield 15, 3) := by decide +kernel
theorem dX1_spread_91 : decode cX1_spread 91 = .ok (.iinc 3 1, 3) := by decide +kernel
theorem dX1_spread_94 : decode cX1_spread 94 = .ok (.goto (-80), 3) := by decide +kernel
theorem dX1_spread_97 : decode cX1_spread 97 = .ok (.return_, 1) := by decide +kernel
theorem dX1_smallestLike_0 : decode cX1_smallestLike 0 = .ok (.bipush (-5), 2) := by decide +kernel
theorem dX1_smallestLike_2 : decode cX1_smallestLike 2 = .ok (.istore_n 2, 1) := by decide +kernel
theorem dX1_smallestLike_3 : decode cX1_smallestLike 3 = .ok (.bipush 13, 2) := by decide +kernel
theorem dX1_smallestLike_5 : decode cX1_smallestLike 5 = .ok (.istore_n 3, 1) := by decide +kernel
theorem dX1_smallestLike_6 : decode cX1_smallestLike 6 = .ok (.iconst 0, 1) := by decide +kernel
theorem dX1_smallestLike_7 : decode cX1_smallestLike 7 = .ok (.istore 4, 2) := by decide +kernel
theorem dX1_smallestLike_9 : decode cX1_smallestLike 9 = .ok (.iload 4, 2) := by decide +kernel
theorem dX1_smallestLike_11 : decode cX1_smallestLike 11 = .ok (.aload_n 0, 1) := by decide +kernel
theorem dX1_smallestLike_12 : decode cX1_smallestLike 12 = .ok (.getfield 15, 3) := by decide +kernel
theorem dX1_smallestLike_15 : decode cX1_smallestLike 15 = .ok (.if_icmp .ge 38, 3) := by decide +kernel
theorem dX1_smallestLike_18 : decode cX1_smallestLike 18 = .ok (.aload_n 0, 1) := by decide +kernel
theorem dX1_smallestLike_19 : decode cX1_smallestLike 19 = .ok (.getfield 9, 3) := by decide +kernel
theorem dX1_smallestLike_22 : decode cX1_smallestLike 22 = .ok (.iload 4, 2) := by decide +kernel
theorem dX1_smallestLike_24 : decode cX1_smallestLike 24 = .ok (.saload, 1) := by decide +kernel
theorem dX1_smallestLike_25 : decode cX1_smallestLike 25 = .ok (.iload_n 1, 1) := by decide +kernel
theorem dX1_smallestLike_26 : decode cX1_smallestLike 26 = .ok (.if_icmp .ne 21, 3) := by decide +kernel
theorem dX1_smallestLike_29 : decode cX1_smallestLike 29 = .ok (.iload 4, 2) := by decide +kernel
theorem dX1_smallestLike_31 : decode cX1_smallestLike 31 = .ok (.invokestatic 46, 3) := by decide +kernel
theorem dX1_smallestLike_34 : decode cX1_smallestLike 34 = .ok (.iload_n 3, 1) := by decide +kernel
theorem dX1_smallestLike_35 : decode cX1_smallestLike 35 = .ok (.if_icmp .ge 12, 3) := by decide +kernel
theorem dX1_smallestLike_38 : decode cX1_smallestLike 38 = .ok (.iload 4, 2) := by decide +kernel
theorem dX1_smallestLike_40 : decode cX1_smallestLike 40 = .ok (.istore_n 2, 1) := by decide +kernel
theorem dX1_smallestLike_41 : decode cX1_smallestLike 41 = .ok (.iload 4, 2) := by decide +kernel
theorem dX1_smallestLike_43 : decode cX1_smallestLike 43 = .ok (.invokestatic 46, 3) := by decide +kernel
theorem dX1_smallestLike_46 : decode cX1_smallestLike 46 = .ok (.istore_n 3, 1) := by decide +kernel
theorem dX1_smallestLike_47 : decode cX1_smallestLike 47 = .ok (.iinc 4 1, 3) := by decide +kernel
theorem dX1_smallestLike_50 : decode cX1_smallestLike 50 = .ok (.goto (-41), 3) := by decide +kernel
theorem dX1_smallestLike_53 : decode cX1_smallestLike 53 = .ok (.iload_n 2, 1) := by decide +kernel
theorem dX1_smallestLike_54 : decode cX1_smallestLike 54 = .ok (.ireturn, 1) := by decide +kernel
theorem dX1_differentTastes_0 : decode cX1_differentTastes 0 = .ok (.aload_n 0, 1) := by decide +kernel
theorem dX1_differentTastes_1 : decode cX1_differentTastes 1 = .ok (.getfield 19, 3) := by decide +kernel
theorem dX1_differentTastes_4 : decode cX1_differentTastes 4 = .ok (.iconst 0, 1) := by decide +kernel
theorem dX1_differentTastes_5 : decode cX1_differentTastes 5 = .ok (.invokestatic 51, 3) := by decide +kernel
theorem dX1_differentTastes_8 : decode cX1_differentTastes 8 = .ok (.iconst 0, 1) := by decide +kernel
theorem dX1_differentTastes_9 : decode cX1_differentTastes 9 = .ok (.istore_n 1, 1) := by decide +kernel
theorem dX1_differentTastes_10 : decode cX1_differentTastes 10 = .ok (.iconst 0, 1) := by decide +kernel
theorem dX1_differentTastes_11 : decode cX1_differentTastes 11 = .ok (.istore_n 2, 1) := by decide +kernel
theorem dX1_differentTastes_12 : decode cX1_differentTastes 12 = .ok (.iload_n 2, 1) := by decide +kernel
theorem dX1_differentTastes_13 : decode cX1_differentTastes 13 = .ok (.aload_n 0, 1) := by decide +kernel
theorem dX1_differentTastes_14 : decode cX1_differentTastes 14 = .ok (.getfield 15, 3) := by decide +kernel
theorem dX1_differentTastes_17 : decode cX1_differentTastes 17 = .ok (.if_icmp .ge 58, 3) := by decide +kernel
theorem dX1_differentTastes_20 : decode cX1_differentTastes 20 = .ok (.aload_n 0, 1) := by decide +kernel
theorem dX1_differentTastes_21 : decode cX1_differentTastes 21 = .ok (.getfield 9, 3) := by decide +kernel
theorem dX1_differentTastes_24 : decode cX1_differentTastes 24 = .ok (.iload_n 2, 1) := by decide +kernel
theorem dX1_differentTastes_25 : decode cX1_differentTastes 25 = .ok (.saload, 1) := by decide +kernel
theorem dX1_differentTastes_26 : decode cX1_differentTastes 26 = .ok (.bipush 32, 2) := by decide +kernel
theorem dX1_differentTastes_28 : decode cX1_differentTastes 28 = .ok (.idiv, 1) := by decide +kernel
theorem dX1_differentTastes_29 : decode cX1_differentTastes 29 = .ok (.istore_n 3, 1) := by decide +kernel
theorem dX1_differentTastes_30 : decode cX1_differentTastes 30 = .ok (.iconst 1, 1) := by decide +kernel
theorem dX1_differentTastes_31 : decode cX1_differentTastes 31 = .ok (.aload_n 0, 1) := by decide +kernel
theorem dX1_differentTastes_32 : decode cX1_differentTastes 32 = .ok (.getfield 9, 3) := by decide +kernel
theorem dX1_differentTastes_35 : decode cX1_differentTastes 35 = .ok (.iload_n 2, 1) := by decide +kernel
theorem dX1_differentTastes_36 : decode cX1_differentTastes 36 = .ok (.saload, 1) := by decide +kernel
theorem dX1_differentTastes_37 : decode cX1_differentTastes 37 = .ok (.bipush 32, 2) := by decide +kernel
theorem dX1_differentTastes_39 : decode cX1_differentTastes 39 = .ok (.irem, 1) := by decide +kernel
theorem dX1_differentTastes_40 : decode cX1_differentTastes 40 = .ok (.ishl, 1) := by decide +kernel
theorem dX1_differentTastes_41 : decode cX1_differentTastes 41 = .ok (.istore 4, 2) := by decide +kernel
theorem dX1_differentTastes_43 : decode cX1_differentTastes 43 = .ok (.aload_n 0, 1) := by decide +kernel
theorem dX1_differentTastes_44 : decode cX1_differentTastes 44 = .ok (.getfield 19, 3) := by decide +kernel
theorem dX1_differentTastes_47 : decode cX1_differentTastes 47 = .ok (.iload_n 3, 1) := by decide +kernel
theorem dX1_differentTastes_48 : decode cX1_differentTastes 48 = .ok (.iaload, 1) := by decide +kernel
theorem dX1_differentTastes_49 : decode cX1_differentTastes 49 = .ok (.iload 4, 2) := by decide +kernel
theorem dX1_differentTastes_51 : decode cX1_differentTastes 51 = .ok (.iand, 1) := by decide +kernel
theorem dX1_differentTastes_52 : decode cX1_differentTastes 52 = .ok (.ifCond .ne 17, 3) := by decide +kernel
theorem dX1_differentTastes_55 : decode cX1_differentTastes 55 = .ok (.aload_n 0, 1) := by decide +kernel
theorem dX1_differentTastes_56 : decode cX1_differentTastes 56 = .ok (.getfield 19, 3) := by decide +kernel
theorem dX1_differentTastes_59 : decode cX1_differentTastes 59 = .ok (.iload_n 3, 1) := by decide +kernel
theorem dX1_differentTastes_60 : decode cX1_differentTastes 60 = .ok (.dup2, 1) := by decide +kernel
theorem dX1_differentTastes_61 : decode cX1_differentTastes 61 = .ok (.iaload, 1) := by decide +kernel
theorem dX1_differentTastes_62 : decode cX1_differentTastes 62 = .ok (.iload 4, 2) := by decide +kernel
theorem dX1_differentTastes_64 : decode cX1_differentTastes 64 = .ok (.ior, 1) := by decide +kernel
theorem dX1_differentTastes_65 : decode cX1_differentTastes 65 = .ok (.iastore, 1) := by decide +kernel
theorem dX1_differentTastes_66 : decode cX1_differentTastes 66 = .ok (.iinc 1 1, 3) := by decide +kernel
theorem dX1_differentTastes_69 : decode cX1_differentTastes 69 = .ok (.iinc 2 1, 3) := by decide +kernel
theorem dX1_differentTastes_72 : decode cX1_differentTastes 72 = .ok (.goto (-60), 3) := by decide +kernel
theorem dX1_differentTastes_75 : decode cX1_differentTastes 75 = .ok (.iload_n 1, 1) := by decide +kernel
theorem dX1_differentTastes_76 : decode cX1_differentTastes 76 = .ok (.ireturn, 1) := by decide +kernel
theorem dX2_init_0 : decode cX2_init 0 = .ok (.aload_n 0, 1) := by decide +kernel
theorem dX2_init_1 : decode cX2_init 1 = .ok (.invokespecial 3, 3) := by decide +kernel
theorem dX2_init_4 : decode cX2_init 4 = .ok (.aload_n 0, 1) := by decide +kernel
theorem dX2_init_5 : decode cX2_init 5 = .ok (.iconst 5, 1) := by decide +kernel
theorem dX2_init_6 : decode cX2_init 6 = .ok (.anewarray 11, 3) := by decide +kernel
theorem dX2_init_9 : decode cX2_init 9 = .ok (.putfield 13, 3) := by decide +kernel
theorem dX2_init_12 : decode cX2_init 12 = .ok (.aload_n 0, 1) := by decide +kernel
theorem dX2_init_13 : decode cX2_init 13 = .ok (.iconst 0, 1) := by decide +kernel
theorem dX2_init_14 : decode cX2_init 14 = .ok (.putfield 17, 3) := by decide +kernel
theorem dX2_init_17 : decode cX2_init 17 = .ok (.aload_n 0, 1) := by decide +kernel
theorem dX2_init_18 : decode cX2_init 18 = .ok (.iconst 0, 1) := by decide +kernel
theorem dX2_init_19 : decode cX2_init 19 = .ok (.putfield 21, 3) := by decide +kernel
theorem dX2_init_22 : decode cX2_init 22 = .ok (.iconst 0, 1) := by decide +kernel
theorem dX2_init_23 : decode cX2_init 23 = .ok (.istore_n 1, 1) := by decide +kernel
theorem dX2_init_24 : decode cX2_init 24 = .ok (.iload_n 1, 1) := by decide +kernel
theorem dX2_init_25 : decode cX2_init 25 = .ok (.iconst 5, 1) := by decide +kernel
theorem dX2_init_26 : decode cX2_init 26 = .ok (.if_icmp .ge 22, 3) := by decide +kernel
theorem dX2_init_29 : decode cX2_init 29 = .ok (.aload_n 0, 1) := by decide +kernel
theorem dX2_init_30 : decode cX2_init 30 = .ok (.getfield 13, 3) := by decide +kernel
theorem dX2_init_33 : decode cX2_init 33 = .ok (.iload_n 1, 1) := by decide +kernel
theorem dX2_init_34 : decode cX2_init 34 = .ok (.new 11, 3) := by decide +kernel
theorem dX2_init_37 : decode cX2_init 37 = .ok (.dup, 1) := by decide +kernel
theorem dX2_init_38 : decode cX2_init 38 = .ok (.invokespecial 24, 3) := by decide +kernel
theorem dX2_init_41 : decode cX2_init 41 = .ok (.aastore, 1) := by decide +kernel
theorem dX2_init_42 : decode cX2_init 42 = .ok (.iinc 1 1, 3) := by decide +kernel
theorem dX2_init_45 : decode cX2_init 45 = .ok (.goto (-21), 3) := by decide +kernel
theorem dX2_init_48 : decode cX2_init 48 = .ok (.return_, 1) := by decide +kernel
theorem dX2_prepare_0 : decode cX2_prepare 0 = .ok (.aload_n 0, 1) := by decide +kernel
theorem dX2_prepare_1 : decode cX2_prepare 1 = .ok (.getfield 13, 3) := by decide +kernel
theorem dX2_prepare_4 : decode cX2_prepare 4 = .ok (.aload_n 0, 1) := by decide +kernel
theorem dX2_prepare_5 : decode cX2_prepare 5 = .ok (.getfield 17, 3) := by decide +kernel
theorem dX2_prepare_8 : decode cX2_prepare 8 = .ok (.aaload, 1) := by decide +kernel
theorem dX2_prepare_9 : decode cX2_prepare 9 = .ok (.aload_n 1, 1) := by decide +kernel
theorem dX2_prepare_10 : decode cX2_prepare 10 = .ok (.invokevirtual 25, 3) := by decide +kernel
theorem dX2_prepare_13 : decode cX2_prepare 13 = .ok (.return_, 1) := by decide +kernel
theorem dX2_takeBack_0 : decode cX2_takeBack 0 = .ok (.aload_n 1, 1) := by decide +kernel
theorem dX2_takeBack_1 : decode cX2_takeBack 1 = .ok (.aload_n 0, 1) := by decide +kernel
theorem dX2_takeBack_2 : decode cX2_takeBack 2 = .ok (.getfield 13, 3) := by decide +kernel
theorem dX2_takeBack_5 : decode cX2_takeBack 5 = .ok (.aload_n 0, 1) := by decide +kernel
theorem dX2_takeBack_6 : decode cX2_takeBack 6 = .ok (.getfield 17, 3) := by decide +kernel
theorem dX2_takeBack_9 : decode cX2_takeBack 9 = .ok (.aaload, 1) := by decide +kernel
theorem dX2_takeBack_10 : decode cX2_takeBack 10 = .ok (.invokevirtual 25, 3) := by decide +kernel
theorem dX2_takeBack_13 : decode cX2_takeBack 13 = .ok (.return_, 1) := by decide +kernel
theorem dX2_record_0 : decode cX2_record 0 = .ok (.aload_n 0, 1) := by decide +kernel
theorem dX2_record_1 : decode cX2_record 1 = .ok (.aload_n 0, 1) := by decide +kernel
theorem dX2_record_2 : decode cX2_record 2 = .ok (.getfield 17, 3) := by decide +kernel
theorem dX2_record_5 : decode cX2_record 5 = .ok (.iconst 1, 1) := by decide +kernel
theorem dX2_record_6 : decode cX2_record 6 = .ok (.iadd, 1) := by decide +kernel
theorem dX2_record_7 : decode cX2_record 7 = .ok (.iconst 5, 1) := by decide +kernel
theorem dX2_record_8 : decode cX2_record 8 = .ok (.irem, 1) := by decide +kernel
theorem dX2_record_9 : decode cX2_record 9 = .ok (.putfield 17, 3) := by decide +kernel
theorem dX2_record_12 : decode cX2_record 12 = .ok (.aload_n 0, 1) := by decide +kernel
theorem dX2_record_13 : decode cX2_record 13 = .ok (.aload_n 0, 1) := by decide +kernel
theorem dX2_record_14 : decode cX2_record 14 = .ok (.getfield 21, 3) := by decide +kernel
theorem dX2_record_17 : decode cX2_record 17 = .ok (.iconst 1, 1) := by decide +kernel
theorem dX2_record_18 : decode cX2_record 18 = .ok (.iadd, 1) := by decide +kernel
theorem dX2_record_19 : decode cX2_record 19 = .ok (.iconst 4, 1) := by decide +kernel
theorem dX2_record_20 : decode cX2_record 20 = .ok (.invokestatic 29, 3) := by decide +kernel
theorem dX2_record_23 : decode cX2_record 23 = .ok (.putfield 21, 3) := by decide +kernel
theorem dX2_record_26 : decode cX2_record 26 = .ok (.return_, 1) := by decide +kernel
theorem dX2_stepBack_0 : decode cX2_stepBack 0 = .ok (.aload_n 0, 1) := by decide +kernel
theorem dX2_stepBack_1 : decode cX2_stepBack 1 = .ok (.getfield 21, 3) := by decide +kernel
theorem dX2_stepBack_4 : decode cX2_stepBack 4 = .ok (.ifCond .ne 6, 3) := by decide +kernel
theorem dX2_stepBack_7 : decode cX2_stepBack 7 = .ok (.bipush (-5), 2) := by decide +kernel
theorem dX2_stepBack_9 : decode cX2_stepBack 9 = .ok (.ireturn, 1) := by decide +kernel
theorem dX2_stepBack_10 : decode cX2_stepBack 10 = .ok (.aload_n 0, 1) := by decide +kernel
theorem dX2_stepBack_11 : decode cX2_stepBack 11 = .ok (.aload_n 0, 1) := by decide +kernel
theorem dX2_stepBack_12 : decode cX2_stepBack 12 = .ok (.getfield 17, 3) := by decide +kernel
theorem dX2_stepBack_15 : decode cX2_stepBack 15 = .ok (.iconst 4, 1) := by decide +kernel
theorem dX2_stepBack_16 : decode cX2_stepBack 16 = .ok (.iadd, 1) := by decide +kernel
theorem dX2_stepBack_17 : decode cX2_stepBack 17 = .ok (.iconst 5, 1) := by decide +kernel
theorem dX2_stepBack_18 : decode cX2_stepBack 18 = .ok (.irem, 1) := by decide +kernel
theorem dX2_stepBack_19 : decode cX2_stepBack 19 = .ok (.putfield 17, 3) := by decide +kernel
theorem dX2_stepBack_22 : decode cX2_stepBack 22 = .ok (.aload_n 0, 1) := by decide +kernel
theorem dX2_stepBack_23 : decode cX2_stepBack 23 = .ok (.dup, 1) := by decide +kernel
theorem dX2_stepBack_24 : decode cX2_stepBack 24 = .ok (.getfield 21, 3) := by decide +kernel
theorem dX2_stepBack_27 : decode cX2_stepBack 27 = .ok (.iconst 1, 1) := by decide +kernel
theorem dX2_stepBack_28 : decode cX2_stepBack 28 = .ok (.isub, 1) := by decide +kernel
theorem dX2_stepBack_29 : decode cX2_stepBack 29 = .ok (.putfield 21, 3) := by decide +kernel
theorem dX2_stepBack_32 : decode cX2_stepBack 32 = .ok (.aload_n 0, 1) := by decide +kernel
theorem dX2_stepBack_33 : decode cX2_stepBack 33 = .ok (.aload_n 1, 1) := by decide +kernel
theorem dX2_stepBack_34 : decode cX2_stepBack 34 = .ok (.invokevirtual 35, 3) := by decide +kernel
theorem dX2_stepBack_37 : decode cX2_stepBack 37 = .ok (.aload_n 0, 1) := by decide +kernel
theorem dX2_stepBack_38 : decode cX2_stepBack 38 = .ok (.getfield 21, 3) := by decide +kernel
theorem dX2_stepBack_41 : decode cX2_stepBack 41 = .ok (.ireturn, 1) := by decide +kernel
theorem dX3_init_0 : decode cX3_init 0 = .ok (.aload_n 0, 1) := by decide +kernel
theorem dX3_init_1 : decode cX3_init 1 = .ok (.invokespecial 3, 3) := by decide +kernel
theorem dX3_init_4 : decode cX3_init 4 = .ok (.aload_n 0, 1) := by decide +kernel
theorem dX3_init_5 : decode cX3_init 5 = .ok (.sipush 6561, 3) := by decide +kernel
theorem dX3_init_8 : decode cX3_init 8 = .ok (.newarray .byte, 2) := by decide +kernel
theorem dX3_init_10 : decode cX3_init 10 = .ok (.putfield 9, 3) := by decide +kernel
theorem dX3_init_13 : decode cX3_init 13 = .ok (.iconst 0, 1) := by decide +kernel
theorem dX3_init_14 : decode cX3_init 14 = .ok (.istore_n 1, 1) := by decide +kernel
theorem dX3_init_15 : decode cX3_init 15 = .ok (.iload_n 1, 1) := by decide +kernel
theorem dX3_init_16 : decode cX3_init 16 = .ok (.bipush 81, 2) := by decide +kernel
theorem dX3_init_18 : decode cX3_init 18 = .ok (.if_icmp .ge 60, 3) := by decide +kernel
theorem dX3_init_21 : decode cX3_init 21 = .ok (.iconst 0, 1) := by decide +kernel
theorem dX3_init_22 : decode cX3_init 22 = .ok (.istore_n 2, 1) := by decide +kernel
theorem dX3_init_23 : decode cX3_init 23 = .ok (.iload_n 2, 1) := by decide +kernel
theorem dX3_init_24 : decode cX3_init 24 = .ok (.bipush 81, 2) := by decide +kernel
theorem dX3_init_26 : decode cX3_init 26 = .ok (.if_icmp .ge 46, 3) := by decide +kernel
theorem dX3_init_29 : decode cX3_init 29 = .ok (.aload_n 0, 1) := by decide +kernel
theorem dX3_init_30 : decode cX3_init 30 = .ok (.getfield 9, 3) := by decide +kernel
theorem dX3_init_33 : decode cX3_init 33 = .ok (.iload_n 1, 1) := by decide +kernel
theorem dX3_init_34 : decode cX3_init 34 = .ok (.iconst 3, 1) := by decide +kernel
theorem dX3_init_35 : decode cX3_init 35 = .ok (.idiv, 1) := by decide +kernel
theorem dX3_init_36 : decode cX3_init 36 = .ok (.bipush 81, 2) := by decide +kernel
theorem dX3_init_38 : decode cX3_init 38 = .ok (.imul, 1) := by decide +kernel
theorem dX3_init_39 : decode cX3_init 39 = .ok (.iload_n 2, 1) := by decide +kernel
theorem dX3_init_40 : decode cX3_init 40 = .ok (.iconst 3, 1) := by decide +kernel
theorem dX3_init_41 : decode cX3_init 41 = .ok (.idiv, 1) := by decide +kernel
theorem dX3_init_42 : decode cX3_init 42 = .ok (.iadd, 1) := by decide +kernel
theorem dX3_init_43 : decode cX3_init 43 = .ok (.baload, 1) := by decide +kernel
theorem dX3_init_44 : decode cX3_init 44 = .ok (.istore_n 3, 1) := by decide +kernel
theorem dX3_init_45 : decode cX3_init 45 = .ok (.aload_n 0, 1) := by decide +kernel
theorem dX3_init_46 : decode cX3_init 46 = .ok (.getfield 9, 3) := by decide +kernel
theorem dX3_init_49 : decode cX3_init 49 = .ok (.iload_n 1, 1) := by decide +kernel
theorem dX3_init_50 : decode cX3_init 50 = .ok (.bipush 81, 2) := by decide +kernel
theorem dX3_init_52 : decode cX3_init 52 = .ok (.imul, 1) := by decide +kernel
theorem dX3_init_53 : decode cX3_init 53 = .ok (.iload_n 2, 1) := by decide +kernel
theorem dX3_init_54 : decode cX3_init 54 = .ok (.iadd, 1) := by decide +kernel
theorem dX3_init_55 : decode cX3_init 55 = .ok (.iload_n 3, 1) := by decide +kernel
theorem dX3_init_56 : decode cX3_init 56 = .ok (.iconst 3, 1) := by decide +kernel
theorem dX3_init_57 : decode cX3_init 57 = .ok (.imul, 1) := by decide +kernel
theorem dX3_init_58 : decode cX3_init 58 = .ok (.iload_n 1, 1) := by decide +kernel
theorem dX3_init_59 : decode cX3_init 59 = .ok (.iload_n 2, 1) := by decide +kernel
theorem dX3_init_60 : decode cX3_init 60 = .ok (.iadd, 1) := by decide +kernel
theorem dX3_init_61 : decode cX3_init 61 = .ok (.iconst 3, 1) := by decide +kernel
theorem dX3_init_62 : decode cX3_init 62 = .ok (.irem, 1) := by decide +kernel
theorem dX3_init_63 : decode cX3_init 63 = .ok (.iadd, 1) := by decide +kernel
theorem dX3_init_64 : decode cX3_init 64 = .ok (.i2b, 1) := by decide +kernel
theorem dX3_init_65 : decode cX3_init 65 = .ok (.bastore, 1) := by decide +kernel
theorem dX3_init_66 : decode cX3_init 66 = .ok (.iinc 2 1, 3) := by decide +kernel
theorem dX3_init_69 : decode cX3_init 69 = .ok (.goto (-46), 3) := by decide +kernel
theorem dX3_init_72 : decode cX3_init 72 = .ok (.iinc 1 1, 3) := by decide +kernel
theorem dX3_init_75 : decode cX3_init 75 = .ok (.goto (-60), 3) := by decide +kernel
theorem dX3_init_78 : decode cX3_init 78 = .ok (.return_, 1) := by decide +kernel
theorem dX3_join_0 : decode cX3_join 0 = .ok (.aload_n 0, 1) := by decide +kernel
theorem dX3_join_1 : decode cX3_join 1 = .ok (.getfield 9, 3) := by decide +kernel
theorem dX3_join_4 : decode cX3_join 4 = .ok (.iload_n 1, 1) := by decide +kernel
theorem dX3_join_5 : decode cX3_join 5 = .ok (.bipush 81, 2) := by decide +kernel
theorem dX3_join_7 : decode cX3_join 7 = .ok (.idiv, 1) := by decide +kernel
theorem dX3_join_8 : decode cX3_join 8 = .ok (.bipush 81, 2) := by decide +kernel
theorem dX3_join_10 : decode cX3_join 10 = .ok (.imul, 1) := by decide +kernel
theorem dX3_join_11 : decode cX3_join 11 = .ok (.iload_n 2, 1) := by decide +kernel
theorem dX3_join_12 : decode cX3_join 12 = .ok (.bipush 81, 2) := by decide +kernel
theorem dX3_join_14 : decode cX3_join 14 = .ok (.idiv, 1) := by decide +kernel
theorem dX3_join_15 : decode cX3_join 15 = .ok (.iadd, 1) := by decide +kernel
theorem dX3_join_16 : decode cX3_join 16 = .ok (.baload, 1) := by decide +kernel
theorem dX3_join_17 : decode cX3_join 17 = .ok (.istore_n 3, 1) := by decide +kernel
theorem dX3_join_18 : decode cX3_join 18 = .ok (.aload_n 0, 1) := by decide +kernel
theorem dX3_join_19 : decode cX3_join 19 = .ok (.getfield 9, 3) := by decide +kernel
theorem dX3_join_22 : decode cX3_join 22 = .ok (.iload_n 1, 1) := by decide +kernel
theorem dX3_join_23 : decode cX3_join 23 = .ok (.bipush 81, 2) := by decide +kernel
theorem dX3_join_25 : decode cX3_join 25 = .ok (.irem, 1) := by decide +kernel
theorem dX3_join_26 : decode cX3_join 26 = .ok (.bipush 81, 2) := by decide +kernel
theorem dX3_join_28 : decode cX3_join 28 = .ok (.imul, 1) := by decide +kernel
theorem dX3_join_29 : decode cX3_join 29 = .ok (.iload_n 2, 1) := by decide +kernel
theorem dX3_join_30 : decode cX3_join 30 = .ok (.bipush 81, 2) := by decide +kernel
theorem dX3_join_32 : decode cX3_join 32 = .ok (.irem, 1) := by decide +kernel
theorem dX3_join_33 : decode cX3_join 33 = .ok (.iadd, 1) := by decide +kernel
theorem dX3_join_34 : decode cX3_join 34 = .ok (.baload, 1) := by decide +kernel
theorem dX3_join_35 : decode cX3_join 35 = .ok (.istore 4, 2) := by decide +kernel
theorem dX3_join_37 : decode cX3_join 37 = .ok (.iload_n 3, 1) := by decide +kernel
theorem dX3_join_38 : decode cX3_join 38 = .ok (.bipush 81, 2) := by decide +kernel
theorem dX3_join_40 : decode cX3_join 40 = .ok (.imul, 1) := by decide +kernel
theorem dX3_join_41 : decode cX3_join 41 = .ok (.iload 4, 2) := by decide +kernel
theorem dX3_join_43 : decode cX3_join 43 = .ok (.iadd, 1) := by decide +kernel
theorem dX3_join_44 : decode cX3_join 44 = .ok (.ireturn, 1) := by decide +kernel
theorem dX3_twice_0 : decode cX3_twice 0 = .ok (.aload_n 0, 1) := by decide +kernel
theorem dX3_twice_1 : decode cX3_twice 1 = .ok (.iload_n 1, 1) := by decide +kernel
theorem dX3_twice_2 : decode cX3_twice 2 = .ok (.iload_n 1, 1) := by decide +kernel
theorem dX3_twice_3 : decode cX3_twice 3 = .ok (.invokevirtual 15, 3) := by decide +kernel
theorem dX3_twice_6 : decode cX3_twice 6 = .ok (.ireturn, 1) := by decide +kernel
theorem dX4_init_0 : decode cX4_init 0 = .ok (.aload_n 0, 1) := by decide +kernel
theorem dX4_init_1 : decode cX4_init 1 = .ok (.invokespecial 3, 3) := by decide +kernel
theorem dX4_init_4 : decode cX4_init 4 = .ok (.aload_n 0, 1) := by decide +kernel
theorem dX4_init_5 : decode cX4_init 5 = .ok (.bipush 12, 2) := by decide +kernel
theorem dX4_init_7 : decode cX4_init 7 = .ok (.newarray .int, 2) := by decide +kernel
theorem dX4_init_9 : decode cX4_init 9 = .ok (.putfield 9, 3) := by decide +kernel
theorem dX4_init_12 : decode cX4_init 12 = .ok (.aload_n 0, 1) := by decide +kernel
theorem dX4_init_13 : decode cX4_init 13 = .ok (.bipush 12, 2) := by decide +kernel
theorem dX4_init_15 : decode cX4_init 15 = .ok (.newarray .int, 2) := by decide +kernel
theorem dX4_init_17 : decode cX4_init 17 = .ok (.putfield 15, 3) := by decide +kernel
theorem dX4_init_20 : decode cX4_init 20 = .ok (.aload_n 0, 1) := by decide +kernel
theorem dX4_init_21 : decode cX4_init 21 = .ok (.iconst 0, 1) := by decide +kernel
theorem dX4_init_22 : decode cX4_init 22 = .ok (.putfield 18, 3) := by decide +kernel
theorem dX4_init_25 : decode cX4_init 25 = .ok (.aload_n 0, 1) := by decide +kernel
theorem dX4_init_26 : decode cX4_init 26 = .ok (.iconst 0, 1) := by decide +kernel
theorem dX4_init_27 : decode cX4_init 27 = .ok (.putfield 22, 3) := by decide +kernel
theorem dX4_init_30 : decode cX4_init 30 = .ok (.aload_n 0, 1) := by decide +kernel
theorem dX4_init_31 : decode cX4_init 31 = .ok (.bipush 8, 2) := by decide +kernel
theorem dX4_init_33 : decode cX4_init 33 = .ok (.newarray .int, 2) := by decide +kernel
theorem dX4_init_35 : decode cX4_init 35 = .ok (.putfield 25, 3) := by decide +kernel
theorem dX4_init_38 : decode cX4_init 38 = .ok (.aload_n 0, 1) := by decide +kernel
theorem dX4_init_39 : decode cX4_init 39 = .ok (.iconst 0, 1) := by decide +kernel
theorem dX4_init_40 : decode cX4_init 40 = .ok (.putfield 28, 3) := by decide +kernel
theorem dX4_init_43 : decode cX4_init 43 = .ok (.aload_n 0, 1) := by decide +kernel
theorem dX4_init_44 : decode cX4_init 44 = .ok (.bipush 8, 2) := by decide +kernel
theorem dX4_init_46 : decode cX4_init 46 = .ok (.newarray .int, 2) := by decide +kernel
theorem dX4_init_48 : decode cX4_init 48 = .ok (.putfield 31, 3) := by decide +kernel
theorem dX4_init_51 : decode cX4_init 51 = .ok (.aload_n 0, 1) := by decide +kernel
theorem dX4_init_52 : decode cX4_init 52 = .ok (.bipush 8, 2) := by decide +kernel
theorem dX4_init_54 : decode cX4_init 54 = .ok (.newarray .int, 2) := by decide +kernel
theorem dX4_init_56 : decode cX4_init 56 = .ok (.putfield 34, 3) := by decide +kernel
theorem dX4_init_59 : decode cX4_init 59 = .ok (.aload_n 0, 1) := by decide +kernel
theorem dX4_init_60 : decode cX4_init 60 = .ok (.iconst 0, 1) := by decide +kernel
theorem dX4_init_61 : decode cX4_init 61 = .ok (.putfield 37, 3) := by decide +kernel
theorem dX4_init_64 : decode cX4_init 64 = .ok (.aload_n 0, 1) := by decide +kernel
theorem dX4_init_65 : decode cX4_init 65 = .ok (.bipush 8, 2) := by decide +kernel
theorem dX4_init_67 : decode cX4_init 67 = .ok (.newarray .int, 2) := by decide +kernel
theorem dX4_init_69 : decode cX4_init 69 = .ok (.putfield 40, 3) := by decide +kernel
theorem dX4_init_72 : decode cX4_init 72 = .ok (.iconst 0, 1) := by decide +kernel
theorem dX4_init_73 : decode cX4_init 73 = .ok (.istore_n 1, 1) := by decide +kernel
theorem dX4_init_74 : decode cX4_init 74 = .ok (.iload_n 1, 1) := by decide +kernel
theorem dX4_init_75 : decode cX4_init 75 = .ok (.bipush 8, 2) := by decide +kernel
theorem dX4_init_77 : decode cX4_init 77 = .ok (.if_icmp .ge 18, 3) := by decide +kernel
theorem dX4_init_80 : decode cX4_init 80 = .ok (.aload_n 0, 1) := by decide +kernel
theorem dX4_init_81 : decode cX4_init 81 = .ok (.getfield 31, 3) := by decide +kernel
theorem dX4_init_84 : decode cX4_init 84 = .ok (.iload_n 1, 1) := by decide +kernel
theorem dX4_init_85 : decode cX4_init 85 = .ok (.iload_n 1, 1) := by decide +kernel
theorem dX4_init_86 : decode cX4_init 86 = .ok (.iconst 1, 1) := by decide +kernel
theorem dX4_init_87 : decode cX4_init 87 = .ok (.iadd, 1) := by decide +kernel
theorem dX4_init_88 : decode cX4_init 88 = .ok (.iastore, 1) := by decide +kernel
theorem dX4_init_89 : decode cX4_init 89 = .ok (.iinc 1 1, 3) := by decide +kernel
theorem dX4_init_92 : decode cX4_init 92 = .ok (.goto (-18), 3) := by decide +kernel
theorem dX4_init_95 : decode cX4_init 95 = .ok (.return_, 1) := by decide +kernel
theorem dX4_copyFrom_0 : decode cX4_copyFrom 0 = .ok (.aload_n 1, 1) := by decide +kernel
theorem dX4_copyFrom_1 : decode cX4_copyFrom 1 = .ok (.getfield 9, 3) := by decide +kernel
theorem dX4_copyFrom_4 : decode cX4_copyFrom 4 = .ok (.iconst 0, 1) := by decide +kernel
theorem dX4_copyFrom_5 : decode cX4_copyFrom 5 = .ok (.aload_n 0, 1) := by decide +kernel
theorem dX4_copyFrom_6 : decode cX4_copyFrom 6 = .ok (.getfield 9, 3) := by decide +kernel
theorem dX4_copyFrom_9 : decode cX4_copyFrom 9 = .ok (.iconst 0, 1) := by decide +kernel
theorem dX4_copyFrom_10 : decode cX4_copyFrom 10 = .ok (.bipush 12, 2) := by decide +kernel
theorem dX4_copyFrom_12 : decode cX4_copyFrom 12 = .ok (.invokestatic 43, 3) := by decide +kernel
theorem dX4_copyFrom_15 : decode cX4_copyFrom 15 = .ok (.aload_n 1, 1) := by decide +kernel
theorem dX4_copyFrom_16 : decode cX4_copyFrom 16 = .ok (.getfield 15, 3) := by decide +kernel
theorem dX4_copyFrom_19 : decode cX4_copyFrom 19 = .ok (.iconst 0, 1) := by decide +kernel
theorem dX4_copyFrom_20 : decode cX4_copyFrom 20 = .ok (.aload_n 0, 1) := by decide +kernel
theorem dX4_copyFrom_21 : decode cX4_copyFrom 21 = .ok (.getfield 15, 3) := by decide +kernel
theorem dX4_copyFrom_24 : decode cX4_copyFrom 24 = .ok (.iconst 0, 1) := by decide +kernel
theorem dX4_copyFrom_25 : decode cX4_copyFrom 25 = .ok (.bipush 12, 2) := by decide +kernel
theorem dX4_copyFrom_27 : decode cX4_copyFrom 27 = .ok (.invokestatic 43, 3) := by decide +kernel
theorem dX4_copyFrom_30 : decode cX4_copyFrom 30 = .ok (.aload_n 0, 1) := by decide +kernel
theorem dX4_copyFrom_31 : decode cX4_copyFrom 31 = .ok (.aload_n 1, 1) := by decide +kernel
theorem dX4_copyFrom_32 : decode cX4_copyFrom 32 = .ok (.getfield 18, 3) := by decide +kernel
theorem dX4_copyFrom_35 : decode cX4_copyFrom 35 = .ok (.putfield 18, 3) := by decide +kernel
theorem dX4_copyFrom_38 : decode cX4_copyFrom 38 = .ok (.aload_n 0, 1) := by decide +kernel
theorem dX4_copyFrom_39 : decode cX4_copyFrom 39 = .ok (.aload_n 1, 1) := by decide +kernel
theorem dX4_copyFrom_40 : decode cX4_copyFrom 40 = .ok (.getfield 22, 3) := by decide +kernel
theorem dX4_copyFrom_43 : decode cX4_copyFrom 43 = .ok (.putfield 22, 3) := by decide +kernel
theorem dX4_copyFrom_46 : decode cX4_copyFrom 46 = .ok (.aload_n 1, 1) := by decide +kernel
theorem dX4_copyFrom_47 : decode cX4_copyFrom 47 = .ok (.getfield 25, 3) := by decide +kernel
theorem dX4_copyFrom_50 : decode cX4_copyFrom 50 = .ok (.iconst 0, 1) := by decide +kernel
theorem dX4_copyFrom_51 : decode cX4_copyFrom 51 = .ok (.aload_n 0, 1) := by decide +kernel
theorem dX4_copyFrom_52 : decode cX4_copyFrom 52 = .ok (.getfield 25, 3) := by decide +kernel
theorem dX4_copyFrom_55 : decode cX4_copyFrom 55 = .ok (.iconst 0, 1) := by decide +kernel
theorem dX4_copyFrom_56 : decode cX4_copyFrom 56 = .ok (.bipush 8, 2) := by decide +kernel
theorem dX4_copyFrom_58 : decode cX4_copyFrom 58 = .ok (.invokestatic 43, 3) := by decide +kernel
theorem dX4_copyFrom_61 : decode cX4_copyFrom 61 = .ok (.aload_n 0, 1) := by decide +kernel
theorem dX4_copyFrom_62 : decode cX4_copyFrom 62 = .ok (.aload_n 1, 1) := by decide +kernel
theorem dX4_copyFrom_63 : decode cX4_copyFrom 63 = .ok (.getfield 28, 3) := by decide +kernel
theorem dX4_copyFrom_66 : decode cX4_copyFrom 66 = .ok (.putfield 28, 3) := by decide +kernel
theorem dX4_copyFrom_69 : decode cX4_copyFrom 69 = .ok (.aload_n 1, 1) := by decide +kernel
theorem dX4_copyFrom_70 : decode cX4_copyFrom 70 = .ok (.getfield 31, 3) := by decide +kernel
theorem dX4_copyFrom_73 : decode cX4_copyFrom 73 = .ok (.iconst 0, 1) := by decide +kernel
theorem dX4_copyFrom_74 : decode cX4_copyFrom 74 = .ok (.aload_n 0, 1) := by decide +kernel
theorem dX4_copyFrom_75 : decode cX4_copyFrom 75 = .ok (.getfield 31, 3) := by decide +kernel
theorem dX4_copyFrom_78 : decode cX4_copyFrom 78 = .ok (.iconst 0, 1) := by decide +kernel
theorem dX4_copyFrom_79 : decode cX4_copyFrom 79 = .ok (.bipush 8, 2) := by decide +kernel
theorem dX4_copyFrom_81 : decode cX4_copyFrom 81 = .ok (.invokestatic 43, 3) := by decide +kernel
theorem dX4_copyFrom_84 : decode cX4_copyFrom 84 = .ok (.aload_n 1, 1) := by decide +kernel
theorem dX4_copyFrom_85 : decode cX4_copyFrom 85 = .ok (.getfield 34, 3) := by decide +kernel
theorem dX4_copyFrom_88 : decode cX4_copyFrom 88 = .ok (.iconst 0, 1) := by decide +kernel
theorem dX4_copyFrom_89 : decode cX4_copyFrom 89 = .ok (.aload_n 0, 1) := by decide +kernel
theorem dX4_copyFrom_90 : decode cX4_copyFrom 90 = .ok (.getfield 34, 3) := by decide +kernel
theorem dX4_copyFrom_93 : decode cX4_copyFrom 93 = .ok (.iconst 0, 1) := by decide +kernel
theorem dX4_copyFrom_94 : decode cX4_copyFrom 94 = .ok (.bipush 8, 2) := by decide +kernel
theorem dX4_copyFrom_96 : decode cX4_copyFrom 96 = .ok (.invokestatic 43, 3) := by decide +kernel
theorem dX4_copyFrom_99 : decode cX4_copyFrom 99 = .ok (.aload_n 0, 1) := by decide +kernel
theorem dX4_copyFrom_100 : decode cX4_copyFrom 100 = .ok (.aload_n 1, 1) := by decide +kernel
theorem dX4_copyFrom_101 : decode cX4_copyFrom 101 = .ok (.getfield 37, 3) := by decide +kernel
theorem dX4_copyFrom_104 : decode cX4_copyFrom 104 = .ok (.putfield 37, 3) := by decide +kernel
theorem dX4_copyFrom_107 : decode cX4_copyFrom 107 = .ok (.aload_n 1, 1) := by decide +kernel
theorem dX4_copyFrom_108 : decode cX4_copyFrom 108 = .ok (.getfield 40, 3) := by decide +kernel
theorem dX4_copyFrom_111 : decode cX4_copyFrom 111 = .ok (.iconst 0, 1) := by decide +kernel
theorem dX4_copyFrom_112 : decode cX4_copyFrom 112 = .ok (.aload_n 0, 1) := by decide +kernel
theorem dX4_copyFrom_113 : decode cX4_copyFrom 113 = .ok (.getfield 40, 3) := by decide +kernel
theorem dX4_copyFrom_116 : decode cX4_copyFrom 116 = .ok (.iconst 0, 1) := by decide +kernel
theorem dX4_copyFrom_117 : decode cX4_copyFrom 117 = .ok (.bipush 8, 2) := by decide +kernel
theorem dX4_copyFrom_119 : decode cX4_copyFrom 119 = .ok (.invokestatic 43, 3) := by decide +kernel
theorem dX4_copyFrom_122 : decode cX4_copyFrom 122 = .ok (.return_, 1) := by decide +kernel
theorem dX4_placeOf_0 : decode cX4_placeOf 0 = .ok (.iconst 0, 1) := by decide +kernel
theorem dX4_placeOf_1 : decode cX4_placeOf 1 = .ok (.istore_n 2, 1) := by decide +kernel
theorem dX4_placeOf_2 : decode cX4_placeOf 2 = .ok (.iload_n 2, 1) := by decide +kernel
theorem dX4_placeOf_3 : decode cX4_placeOf 3 = .ok (.aload_n 0, 1) := by decide +kernel
theorem dX4_placeOf_4 : decode cX4_placeOf 4 = .ok (.getfield 18, 3) := by decide +kernel
theorem dX4_placeOf_7 : decode cX4_placeOf 7 = .ok (.if_icmp .ge 21, 3) := by decide +kernel
theorem dX4_placeOf_10 : decode cX4_placeOf 10 = .ok (.aload_n 0, 1) := by decide +kernel
theorem dX4_placeOf_11 : decode cX4_placeOf 11 = .ok (.getfield 9, 3) := by decide +kernel
theorem dX4_placeOf_14 : decode cX4_placeOf 14 = .ok (.iload_n 2, 1) := by decide +kernel
theorem dX4_placeOf_15 : decode cX4_placeOf 15 = .ok (.iaload, 1) := by decide +kernel
theorem dX4_placeOf_16 : decode cX4_placeOf 16 = .ok (.iload_n 1, 1) := by decide +kernel
theorem dX4_placeOf_17 : decode cX4_placeOf 17 = .ok (.if_icmp .ne 5, 3) := by decide +kernel
theorem dX4_placeOf_20 : decode cX4_placeOf 20 = .ok (.iload_n 2, 1) := by decide +kernel
theorem dX4_placeOf_21 : decode cX4_placeOf 21 = .ok (.ireturn, 1) := by decide +kernel
theorem dX4_placeOf_22 : decode cX4_placeOf 22 = .ok (.iinc 2 1, 3) := by decide +kernel
theorem dX4_placeOf_25 : decode cX4_placeOf 25 = .ok (.goto (-23), 3) := by decide +kernel
theorem dX4_placeOf_28 : decode cX4_placeOf 28 = .ok (.iconst (-1), 1) := by decide +kernel
theorem dX4_placeOf_29 : decode cX4_placeOf 29 = .ok (.ireturn, 1) := by decide +kernel
theorem dX4_hasRoomForJar_0 : decode cX4_hasRoomForJar 0 = .ok (.aload_n 0, 1) := by decide +kernel
theorem dX4_hasRoomForJar_1 : decode cX4_hasRoomForJar 1 = .ok (.getfield 18, 3) := by decide +kernel
theorem dX4_hasRoomForJar_4 : decode cX4_hasRoomForJar 4 = .ok (.bipush 12, 2) := by decide +kernel
theorem dX4_hasRoomForJar_6 : decode cX4_hasRoomForJar 6 = .ok (.if_icmp .ge 17, 3) := by decide +kernel
theorem dX4_hasRoomForJar_9 : decode cX4_hasRoomForJar 9 = .ok (.aload_n 0, 1) := by decide +kernel
theorem dX4_hasRoomForJar_10 : decode cX4_hasRoomForJar 10 = .ok (.getfield 22, 3) := by decide +kernel
theorem dX4_hasRoomForJar_13 : decode cX4_hasRoomForJar 13 = .ok (.sipush 200, 3) := by decide +kernel
theorem dX4_hasRoomForJar_16 : decode cX4_hasRoomForJar 16 = .ok (.if_icmp .ge 7, 3) := by decide +kernel
theorem dX4_hasRoomForJar_19 : decode cX4_hasRoomForJar 19 = .ok (.iconst 1, 1) := by decide +kernel
theorem dX4_hasRoomForJar_20 : decode cX4_hasRoomForJar 20 = .ok (.goto 4, 3) := by decide +kernel
theorem dX4_hasRoomForJar_23 : decode cX4_hasRoomForJar 23 = .ok (.iconst 0, 1) := by decide +kernel
theorem dX4_hasRoomForJar_24 : decode cX4_hasRoomForJar 24 = .ok (.ireturn, 1) := by decide +kernel
theorem dX4_addJar_0 : decode cX4_addJar 0 = .ok (.aload_n 0, 1) := by decide +kernel
theorem dX4_addJar_1 : decode cX4_addJar 1 = .ok (.getfield 22, 3) := by decide +kernel
theorem dX4_addJar_4 : decode cX4_addJar 4 = .ok (.istore_n 2, 1) := by decide +kernel
theorem dX4_addJar_5 : decode cX4_addJar 5 = .ok (.aload_n 0, 1) := by decide +kernel
theorem dX4_addJar_6 : decode cX4_addJar 6 = .ok (.getfield 9, 3) := by decide +kernel
theorem dX4_addJar_9 : decode cX4_addJar 9 = .ok (.aload_n 0, 1) := by decide +kernel
theorem dX4_addJar_10 : decode cX4_addJar 10 = .ok (.getfield 18, 3) := by decide +kernel
theorem dX4_addJar_13 : decode cX4_addJar 13 = .ok (.iload_n 2, 1) := by decide +kernel
theorem dX4_addJar_14 : decode cX4_addJar 14 = .ok (.iastore, 1) := by decide +kernel
theorem dX4_addJar_15 : decode cX4_addJar 15 = .ok (.aload_n 0, 1) := by decide +kernel
theorem dX4_addJar_16 : decode cX4_addJar 16 = .ok (.getfield 15, 3) := by decide +kernel
theorem dX4_addJar_19 : decode cX4_addJar 19 = .ok (.aload_n 0, 1) := by decide +kernel
theorem dX4_addJar_20 : decode cX4_addJar 20 = .ok (.getfield 18, 3) := by decide +kernel
theorem dX4_addJar_23 : decode cX4_addJar 23 = .ok (.iload_n 1, 1) := by decide +kernel
theorem dX4_addJar_24 : decode cX4_addJar 24 = .ok (.iastore, 1) := by decide +kernel
theorem dX4_addJar_25 : decode cX4_addJar 25 = .ok (.aload_n 0, 1) := by decide +kernel
theorem dX4_addJar_26 : decode cX4_addJar 26 = .ok (.dup, 1) := by decide +kernel
theorem dX4_addJar_27 : decode cX4_addJar 27 = .ok (.getfield 18, 3) := by decide +kernel
theorem dX4_addJar_30 : decode cX4_addJar 30 = .ok (.iconst 1, 1) := by decide +kernel
theorem dX4_addJar_31 : decode cX4_addJar 31 = .ok (.iadd, 1) := by decide +kernel
theorem dX4_addJar_32 : decode cX4_addJar 32 = .ok (.putfield 18, 3) := by decide +kernel
theorem dX4_addJar_35 : decode cX4_addJar 35 = .ok (.aload_n 0, 1) := by decide +kernel
theorem dX4_addJar_36 : decode cX4_addJar 36 = .ok (.dup, 1) := by decide +kernel
theorem dX4_addJar_37 : decode cX4_addJar 37 = .ok (.getfield 22, 3) := by decide +kernel
theorem dX4_addJar_40 : decode cX4_addJar 40 = .ok (.iconst 1, 1) := by decide +kernel
theorem dX4_addJar_41 : decode cX4_addJar 41 = .ok (.iadd, 1) := by decide +kernel
theorem dX4_addJar_42 : decode cX4_addJar 42 = .ok (.putfield 22, 3) := by decide +kernel
theorem dX4_addJar_45 : decode cX4_addJar 45 = .ok (.iload_n 2, 1) := by decide +kernel
theorem dX4_addJar_46 : decode cX4_addJar 46 = .ok (.ireturn, 1) := by decide +kernel
theorem dX4_removeJar_0 : decode cX4_removeJar 0 = .ok (.aload_n 0, 1) := by decide +kernel
theorem dX4_removeJar_1 : decode cX4_removeJar 1 = .ok (.dup, 1) := by decide +kernel
theorem dX4_removeJar_2 : decode cX4_removeJar 2 = .ok (.getfield 18, 3) := by decide +kernel
theorem dX4_removeJar_5 : decode cX4_removeJar 5 = .ok (.iconst 1, 1) := by decide +kernel
theorem dX4_removeJar_6 : decode cX4_removeJar 6 = .ok (.isub, 1) := by decide +kernel
theorem dX4_removeJar_7 : decode cX4_removeJar 7 = .ok (.putfield 18, 3) := by decide +kernel
theorem dX4_removeJar_10 : decode cX4_removeJar 10 = .ok (.iload_n 1, 1) := by decide +kernel
theorem dX4_removeJar_11 : decode cX4_removeJar 11 = .ok (.istore_n 2, 1) := by decide +kernel
theorem dX4_removeJar_12 : decode cX4_removeJar 12 = .ok (.iload_n 2, 1) := by decide +kernel
theorem dX4_removeJar_13 : decode cX4_removeJar 13 = .ok (.aload_n 0, 1) := by decide +kernel
theorem dX4_removeJar_14 : decode cX4_removeJar 14 = .ok (.getfield 18, 3) := by decide +kernel
theorem dX4_removeJar_17 : decode cX4_removeJar 17 = .ok (.if_icmp .ge 37, 3) := by decide +kernel
theorem dX4_removeJar_20 : decode cX4_removeJar 20 = .ok (.aload_n 0, 1) := by decide +kernel
theorem dX4_removeJar_21 : decode cX4_removeJar 21 = .ok (.getfield 9, 3) := by decide +kernel
theorem dX4_removeJar_24 : decode cX4_removeJar 24 = .ok (.iload_n 2, 1) := by decide +kernel
theorem dX4_removeJar_25 : decode cX4_removeJar 25 = .ok (.aload_n 0, 1) := by decide +kernel
theorem dX4_removeJar_26 : decode cX4_removeJar 26 = .ok (.getfield 9, 3) := by decide +kernel
theorem dX4_removeJar_29 : decode cX4_removeJar 29 = .ok (.iload_n 2, 1) := by decide +kernel
theorem dX4_removeJar_30 : decode cX4_removeJar 30 = .ok (.iconst 1, 1) := by decide +kernel
theorem dX4_removeJar_31 : decode cX4_removeJar 31 = .ok (.iadd, 1) := by decide +kernel
theorem dX4_removeJar_32 : decode cX4_removeJar 32 = .ok (.iaload, 1) := by decide +kernel
theorem dX4_removeJar_33 : decode cX4_removeJar 33 = .ok (.iastore, 1) := by decide +kernel
theorem dX4_removeJar_34 : decode cX4_removeJar 34 = .ok (.aload_n 0, 1) := by decide +kernel
theorem dX4_removeJar_35 : decode cX4_removeJar 35 = .ok (.getfield 15, 3) := by decide +kernel
theorem dX4_removeJar_38 : decode cX4_removeJar 38 = .ok (.iload_n 2, 1) := by decide +kernel
theorem dX4_removeJar_39 : decode cX4_removeJar 39 = .ok (.aload_n 0, 1) := by decide +kernel
theorem dX4_removeJar_40 : decode cX4_removeJar 40 = .ok (.getfield 15, 3) := by decide +kernel
theorem dX4_removeJar_43 : decode cX4_removeJar 43 = .ok (.iload_n 2, 1) := by decide +kernel
theorem dX4_removeJar_44 : decode cX4_removeJar 44 = .ok (.iconst 1, 1) := by decide +kernel
theorem dX4_removeJar_45 : decode cX4_removeJar 45 = .ok (.iadd, 1) := by decide +kernel
theorem dX4_removeJar_46 : decode cX4_removeJar 46 = .ok (.iaload, 1) := by decide +kernel
theorem dX4_removeJar_47 : decode cX4_removeJar 47 = .ok (.iastore, 1) := by decide +kernel
theorem dX4_removeJar_48 : decode cX4_removeJar 48 = .ok (.iinc 2 1, 3) := by decide +kernel
theorem dX4_removeJar_51 : decode cX4_removeJar 51 = .ok (.goto (-39), 3) := by decide +kernel
theorem dX4_removeJar_54 : decode cX4_removeJar 54 = .ok (.return_, 1) := by decide +kernel
theorem dX4_removeRule_0 : decode cX4_removeRule 0 = .ok (.aload_n 0, 1) := by decide +kernel
theorem dX4_removeRule_1 : decode cX4_removeRule 1 = .ok (.dup, 1) := by decide +kernel
theorem dX4_removeRule_2 : decode cX4_removeRule 2 = .ok (.getfield 28, 3) := by decide +kernel
theorem dX4_removeRule_5 : decode cX4_removeRule 5 = .ok (.iconst 1, 1) := by decide +kernel
theorem dX4_removeRule_6 : decode cX4_removeRule 6 = .ok (.isub, 1) := by decide +kernel
theorem dX4_removeRule_7 : decode cX4_removeRule 7 = .ok (.putfield 28, 3) := by decide +kernel
theorem dX4_removeRule_10 : decode cX4_removeRule 10 = .ok (.iload_n 1, 1) := by decide +kernel
theorem dX4_removeRule_11 : decode cX4_removeRule 11 = .ok (.istore_n 2, 1) := by decide +kernel
theorem dX4_removeRule_12 : decode cX4_removeRule 12 = .ok (.iload_n 2, 1) := by decide +kernel
theorem dX4_removeRule_13 : decode cX4_removeRule 13 = .ok (.aload_n 0, 1) := by decide +kernel
theorem dX4_removeRule_14 : decode cX4_removeRule 14 = .ok (.getfield 28, 3) := by decide +kernel
theorem dX4_removeRule_17 : decode cX4_removeRule 17 = .ok (.if_icmp .ge 23, 3) := by decide +kernel
theorem dX4_removeRule_20 : decode cX4_removeRule 20 = .ok (.aload_n 0, 1) := by decide +kernel
theorem dX4_removeRule_21 : decode cX4_removeRule 21 = .ok (.getfield 25, 3) := by decide +kernel
theorem dX4_removeRule_24 : decode cX4_removeRule 24 = .ok (.iload_n 2, 1) := by decide +kernel
theorem dX4_removeRule_25 : decode cX4_removeRule 25 = .ok (.aload_n 0, 1) := by decide +kernel
theorem dX4_removeRule_26 : decode cX4_removeRule 26 = .ok (.getfield 25, 3) := by decide +kernel
theorem dX4_removeRule_29 : decode cX4_removeRule 29 = .ok (.iload_n 2, 1) := by decide +kernel
theorem dX4_removeRule_30 : decode cX4_removeRule 30 = .ok (.iconst 1, 1) := by decide +kernel
theorem dX4_removeRule_31 : decode cX4_removeRule 31 = .ok (.iadd, 1) := by decide +kernel
theorem dX4_removeRule_32 : decode cX4_removeRule 32 = .ok (.iaload, 1) := by decide +kernel
theorem dX4_removeRule_33 : decode cX4_removeRule 33 = .ok (.iastore, 1) := by decide +kernel
theorem dX4_removeRule_34 : decode cX4_removeRule 34 = .ok (.iinc 2 1, 3) := by decide +kernel
theorem dX4_removeRule_37 : decode cX4_removeRule 37 = .ok (.goto (-25), 3) := by decide +kernel
theorem dX4_removeRule_40 : decode cX4_removeRule 40 = .ok (.return_, 1) := by decide +kernel
theorem dX4_removeFirstWant_0 : decode cX4_removeFirstWant 0 = .ok (.aload_n 0, 1) := by decide +kernel
theorem dX4_removeFirstWant_1 : decode cX4_removeFirstWant 1 = .ok (.getfield 34, 3) := by decide +kernel
theorem dX4_removeFirstWant_4 : decode cX4_removeFirstWant 4 = .ok (.iconst 0, 1) := by decide +kernel
theorem dX4_removeFirstWant_5 : decode cX4_removeFirstWant 5 = .ok (.iaload, 1) := by decide +kernel
theorem dX4_removeFirstWant_6 : decode cX4_removeFirstWant 6 = .ok (.istore_n 1, 1) := by decide +kernel
theorem dX4_removeFirstWant_7 : decode cX4_removeFirstWant 7 = .ok (.aload_n 0, 1) := by decide +kernel
theorem dX4_removeFirstWant_8 : decode cX4_removeFirstWant 8 = .ok (.dup, 1) := by decide +kernel
theorem dX4_removeFirstWant_9 : decode cX4_removeFirstWant 9 = .ok (.getfield 37, 3) := by decide +kernel
theorem dX4_removeFirstWant_12 : decode cX4_removeFirstWant 12 = .ok (.iconst 1, 1) := by decide +kernel
theorem dX4_removeFirstWant_13 : decode cX4_removeFirstWant 13 = .ok (.isub, 1) := by decide +kernel
theorem dX4_removeFirstWant_14 : decode cX4_removeFirstWant 14 = .ok (.putfield 37, 3) := by decide +kernel
theorem dX4_removeFirstWant_17 : decode cX4_removeFirstWant 17 = .ok (.iconst 0, 1) := by decide +kernel
theorem dX4_removeFirstWant_18 : decode cX4_removeFirstWant 18 = .ok (.istore_n 2, 1) := by decide +kernel
theorem dX4_removeFirstWant_19 : decode cX4_removeFirstWant 19 = .ok (.iload_n 2, 1) := by decide +kernel
theorem dX4_removeFirstWant_20 : decode cX4_removeFirstWant 20 = .ok (.aload_n 0, 1) := by decide +kernel
theorem dX4_removeFirstWant_21 : decode cX4_removeFirstWant 21 = .ok (.getfield 37, 3) := by decide +kernel
theorem dX4_removeFirstWant_24 : decode cX4_removeFirstWant 24 = .ok (.if_icmp .ge 23, 3) := by decide +kernel
theorem dX4_removeFirstWant_27 : decode cX4_removeFirstWant 27 = .ok (.aload_n 0, 1) := by decide +kernel
theorem dX4_removeFirstWant_28 : decode cX4_removeFirstWant 28 = .ok (.getfield 34, 3) := by decide +kernel
theorem dX4_removeFirstWant_31 : decode cX4_removeFirstWant 31 = .ok (.iload_n 2, 1) := by decide +kernel
theorem dX4_removeFirstWant_32 : decode cX4_removeFirstWant 32 = .ok (.aload_n 0, 1) := by decide +kernel
theorem dX4_removeFirstWant_33 : decode cX4_removeFirstWant 33 = .ok (.getfield 34, 3) := by decide +kernel
theorem dX4_removeFirstWant_36 : decode cX4_removeFirstWant 36 = .ok (.iload_n 2, 1) := by decide +kernel
theorem dX4_removeFirstWant_37 : decode cX4_removeFirstWant 37 = .ok (.iconst 1, 1) := by decide +kernel
theorem dX4_removeFirstWant_38 : decode cX4_removeFirstWant 38 = .ok (.iadd, 1) := by decide +kernel
theorem dX4_removeFirstWant_39 : decode cX4_removeFirstWant 39 = .ok (.iaload, 1) := by decide +kernel
theorem dX4_removeFirstWant_40 : decode cX4_removeFirstWant 40 = .ok (.iastore, 1) := by decide +kernel
theorem dX4_removeFirstWant_41 : decode cX4_removeFirstWant 41 = .ok (.iinc 2 1, 3) := by decide +kernel
theorem dX4_removeFirstWant_44 : decode cX4_removeFirstWant 44 = .ok (.goto (-25), 3) := by decide +kernel
theorem dX4_removeFirstWant_47 : decode cX4_removeFirstWant 47 = .ok (.iload_n 1, 1) := by decide +kernel
theorem dX4_removeFirstWant_48 : decode cX4_removeFirstWant 48 = .ok (.ireturn, 1) := by decide +kernel
theorem dX5_init_0 : decode cX5_init 0 = .ok (.aload_n 0, 1) := by decide +kernel
theorem dX5_init_1 : decode cX5_init 1 = .ok (.invokespecial 3, 3) := by decide +kernel
theorem dX5_init_4 : decode cX5_init 4 = .ok (.aload_n 0, 1) := by decide +kernel
theorem dX5_init_5 : decode cX5_init 5 = .ok (.bipush 8, 2) := by decide +kernel
theorem dX5_init_7 : decode cX5_init 7 = .ok (.newarray .int, 2) := by decide +kernel
theorem dX5_init_9 : decode cX5_init 9 = .ok (.putfield 9, 3) := by decide +kernel
theorem dX5_init_12 : decode cX5_init 12 = .ok (.aload_n 0, 1) := by decide +kernel
theorem dX5_init_13 : decode cX5_init 13 = .ok (.iconst 0, 1) := by decide +kernel
theorem dX5_init_14 : decode cX5_init 14 = .ok (.putfield 15, 3) := by decide +kernel
theorem dX5_init_17 : decode cX5_init 17 = .ok (.aload_n 0, 1) := by decide +kernel
theorem dX5_init_18 : decode cX5_init 18 = .ok (.iconst 0, 1) := by decide +kernel
theorem dX5_init_19 : decode cX5_init 19 = .ok (.putfield 19, 3) := by decide +kernel
theorem dX5_init_22 : decode cX5_init 22 = .ok (.aload_n 0, 1) := by decide +kernel
theorem dX5_init_23 : decode cX5_init 23 = .ok (.bipush 8, 2) := by decide +kernel
theorem dX5_init_25 : decode cX5_init 25 = .ok (.newarray .int, 2) := by decide +kernel
theorem dX5_init_27 : decode cX5_init 27 = .ok (.putfield 22, 3) := by decide +kernel
theorem dX5_init_30 : decode cX5_init 30 = .ok (.aload_n 0, 1) := by decide +kernel
theorem dX5_init_31 : decode cX5_init 31 = .ok (.bipush 8, 2) := by decide +kernel
theorem dX5_init_33 : decode cX5_init 33 = .ok (.newarray .int, 2) := by decide +kernel
theorem dX5_init_35 : decode cX5_init 35 = .ok (.putfield 25, 3) := by decide +kernel
theorem dX5_init_38 : decode cX5_init 38 = .ok (.aload_n 0, 1) := by decide +kernel
theorem dX5_init_39 : decode cX5_init 39 = .ok (.bipush 8, 2) := by decide +kernel
theorem dX5_init_41 : decode cX5_init 41 = .ok (.newarray .int, 2) := by decide +kernel
theorem dX5_init_43 : decode cX5_init 43 = .ok (.putfield 28, 3) := by decide +kernel
theorem dX5_init_46 : decode cX5_init 46 = .ok (.aload_n 0, 1) := by decide +kernel
theorem dX5_init_47 : decode cX5_init 47 = .ok (.bipush 81, 2) := by decide +kernel
theorem dX5_init_49 : decode cX5_init 49 = .ok (.newarray .int, 2) := by decide +kernel
theorem dX5_init_51 : decode cX5_init 51 = .ok (.putfield 31, 3) := by decide +kernel
theorem dX5_init_54 : decode cX5_init 54 = .ok (.aload_n 0, 1) := by decide +kernel
theorem dX5_init_55 : decode cX5_init 55 = .ok (.bipush 81, 2) := by decide +kernel
theorem dX5_init_57 : decode cX5_init 57 = .ok (.newarray .int, 2) := by decide +kernel
theorem dX5_init_59 : decode cX5_init 59 = .ok (.putfield 34, 3) := by decide +kernel
theorem dX5_init_62 : decode cX5_init 62 = .ok (.aload_n 0, 1) := by decide +kernel
theorem dX5_init_63 : decode cX5_init 63 = .ok (.aload_n 1, 1) := by decide +kernel
theorem dX5_init_64 : decode cX5_init 64 = .ok (.putfield 37, 3) := by decide +kernel
theorem dX5_init_67 : decode cX5_init 67 = .ok (.return_, 1) := by decide +kernel
theorem dX5_learn_0 : decode cX5_learn 0 = .ok (.aload_n 0, 1) := by decide +kernel
theorem dX5_learn_1 : decode cX5_learn 1 = .ok (.aload_n 1, 1) := by decide +kernel
theorem dX5_learn_2 : decode cX5_learn 2 = .ok (.invokevirtual 41, 3) := by decide +kernel
theorem dX5_learn_5 : decode cX5_learn 5 = .ok (.ifCond .eq 4, 3) := by decide +kernel
theorem dX5_learn_8 : decode cX5_learn 8 = .ok (.return_, 1) := by decide +kernel
theorem dX5_learn_9 : decode cX5_learn 9 = .ok (.aload_n 0, 1) := by decide +kernel
theorem dX5_learn_10 : decode cX5_learn 10 = .ok (.aload_n 1, 1) := by decide +kernel
theorem dX5_learn_11 : decode cX5_learn 11 = .ok (.getfield 45, 3) := by decide +kernel
theorem dX5_learn_14 : decode cX5_learn 14 = .ok (.putfield 15, 3) := by decide +kernel
theorem dX5_learn_17 : decode cX5_learn 17 = .ok (.aload_n 1, 1) := by decide +kernel
theorem dX5_learn_18 : decode cX5_learn 18 = .ok (.getfield 48, 3) := by decide +kernel
theorem dX5_learn_21 : decode cX5_learn 21 = .ok (.iconst 0, 1) := by decide +kernel
theorem dX5_learn_22 : decode cX5_learn 22 = .ok (.aload_n 0, 1) := by decide +kernel
theorem dX5_learn_23 : decode cX5_learn 23 = .ok (.getfield 9, 3) := by decide +kernel
theorem dX5_learn_26 : decode cX5_learn 26 = .ok (.iconst 0, 1) := by decide +kernel
theorem dX5_learn_27 : decode cX5_learn 27 = .ok (.aload_n 0, 1) := by decide +kernel
theorem dX5_learn_28 : decode cX5_learn 28 = .ok (.getfield 15, 3) := by decide +kernel
theorem dX5_learn_31 : decode cX5_learn 31 = .ok (.invokestatic 49, 3) := by decide +kernel
theorem dX5_learn_34 : decode cX5_learn 34 = .ok (.aload_n 0, 1) := by decide +kernel
theorem dX5_learn_35 : decode cX5_learn 35 = .ok (.aload_n 0, 1) := by decide +kernel
theorem dX5_learn_36 : decode cX5_learn 36 = .ok (.aload_n 0, 1) := by decide +kernel
theorem dX5_learn_37 : decode cX5_learn 37 = .ok (.getfield 22, 3) := by decide +kernel
theorem dX5_learn_40 : decode cX5_learn 40 = .ok (.iconst (-1), 1) := by decide +kernel
theorem dX5_learn_41 : decode cX5_learn 41 = .ok (.invokevirtual 55, 3) := by decide +kernel
theorem dX5_learn_44 : decode cX5_learn 44 = .ok (.putfield 19, 3) := by decide +kernel
theorem dX5_learn_47 : decode cX5_learn 47 = .ok (.aload_n 0, 1) := by decide +kernel
theorem dX5_learn_48 : decode cX5_learn 48 = .ok (.invokevirtual 59, 3) := by decide +kernel
theorem dX5_learn_51 : decode cX5_learn 51 = .ok (.return_, 1) := by decide +kernel
theorem dX5_isLearned_0 : decode cX5_isLearned 0 = .ok (.aload_n 1, 1) := by decide +kernel
theorem dX5_isLearned_1 : decode cX5_isLearned 1 = .ok (.getfield 45, 3) := by decide +kernel
theorem dX5_isLearned_4 : decode cX5_isLearned 4 = .ok (.aload_n 0, 1) := by decide +kernel
theorem dX5_isLearned_5 : decode cX5_isLearned 5 = .ok (.getfield 15, 3) := by decide +kernel
theorem dX5_isLearned_8 : decode cX5_isLearned 8 = .ok (.if_icmp .eq 5, 3) := by decide +kernel
theorem dX5_isLearned_11 : decode cX5_isLearned 11 = .ok (.iconst 0, 1) := by decide +kernel
theorem dX5_isLearned_12 : decode cX5_isLearned 12 = .ok (.ireturn, 1) := by decide +kernel
theorem dX5_isLearned_13 : decode cX5_isLearned 13 = .ok (.iconst 0, 1) := by decide +kernel
theorem dX5_isLearned_14 : decode cX5_isLearned 14 = .ok (.istore_n 2, 1) := by decide +kernel
theorem dX5_isLearned_15 : decode cX5_isLearned 15 = .ok (.iload_n 2, 1) := by decide +kernel
theorem dX5_isLearned_16 : decode cX5_isLearned 16 = .ok (.aload_n 0, 1) := by decide +kernel
theorem dX5_isLearned_17 : decode cX5_isLearned 17 = .ok (.getfield 15, 3) := by decide +kernel
theorem dX5_isLearned_20 : decode cX5_isLearned 20 = .ok (.if_icmp .ge 26, 3) := by decide +kernel
theorem dX5_isLearned_23 : decode cX5_isLearned 23 = .ok (.aload_n 1, 1) := by decide +kernel
theorem dX5_isLearned_24 : decode cX5_isLearned 24 = .ok (.getfield 48, 3) := by decide +kernel
theorem dX5_isLearned_27 : decode cX5_isLearned 27 = .ok (.iload_n 2, 1) := by decide +kernel
theorem dX5_isLearned_28 : decode cX5_isLearned 28 = .ok (.iaload, 1) := by decide +kernel
theorem dX5_isLearned_29 : decode cX5_isLearned 29 = .ok (.aload_n 0, 1) := by decide +kernel
theorem dX5_isLearned_30 : decode cX5_isLearned 30 = .ok (.getfield 9, 3) := by decide +kernel
theorem dX5_isLearned_33 : decode cX5_isLearned 33 = .ok (.iload_n 2, 1) := by decide +kernel
theorem dX5_isLearned_34 : decode cX5_isLearned 34 = .ok (.iaload, 1) := by decide +kernel
theorem dX5_isLearned_35 : decode cX5_isLearned 35 = .ok (.if_icmp .eq 5, 3) := by decide +kernel
theorem dX5_isLearned_38 : decode cX5_isLearned 38 = .ok (.iconst 0, 1) := by decide +kernel
theorem dX5_isLearned_39 : decode cX5_isLearned 39 = .ok (.ireturn, 1) := by decide +kernel
theorem dX5_isLearned_40 : decode cX5_isLearned 40 = .ok (.iinc 2 1, 3) := by decide +kernel
theorem dX5_isLearned_43 : decode cX5_isLearned 43 = .ok (.goto (-28), 3) := by decide +kernel
theorem dX5_isLearned_46 : decode cX5_isLearned 46 = .ok (.iconst 1, 1) := by decide +kernel
theorem dX5_isLearned_47 : decode cX5_isLearned 47 = .ok (.ireturn, 1) := by decide +kernel
theorem dX5_findLeads_0 : decode cX5_findLeads 0 = .ok (.aload_n 1, 1) := by decide +kernel
theorem dX5_findLeads_1 : decode cX5_findLeads 1 = .ok (.iconst 0, 1) := by decide +kernel
theorem dX5_findLeads_2 : decode cX5_findLeads 2 = .ok (.invokestatic 62, 3) := by decide +kernel
theorem dX5_findLeads_5 : decode cX5_findLeads 5 = .ok (.iconst 0, 1) := by decide +kernel
theorem dX5_findLeads_6 : decode cX5_findLeads 6 = .ok (.istore_n 3, 1) := by decide +kernel
theorem dX5_findLeads_7 : decode cX5_findLeads 7 = .ok (.iconst 0, 1) := by decide +kernel
theorem dX5_findLeads_8 : decode cX5_findLeads 8 = .ok (.istore 4, 2) := by decide +kernel
theorem dX5_findLeads_10 : decode cX5_findLeads 10 = .ok (.iload 4, 2) := by decide +kernel
theorem dX5_findLeads_12 : decode cX5_findLeads 12 = .ok (.aload_n 0, 1) := by decide +kernel
theorem dX5_findLeads_13 : decode cX5_findLeads 13 = .ok (.getfield 15, 3) := by decide +kernel
theorem dX5_findLeads_16 : decode cX5_findLeads 16 = .ok (.if_icmp .ge 91, 3) := by decide +kernel
theorem dX5_findLeads_19 : decode cX5_findLeads 19 = .ok (.iload 4, 2) := by decide +kernel
theorem dX5_findLeads_21 : decode cX5_findLeads 21 = .ok (.iload_n 2, 1) := by decide +kernel
theorem dX5_findLeads_22 : decode cX5_findLeads 22 = .ok (.if_icmp .ne 7, 3) := by decide +kernel
theorem dX5_findLeads_25 : decode cX5_findLeads 25 = .ok (.iconst 0, 1) := by decide +kernel
theorem dX5_findLeads_26 : decode cX5_findLeads 26 = .ok (.goto 15, 3) := by decide +kernel
theorem dX5_findLeads_29 : decode cX5_findLeads 29 = .ok (.aload_n 0, 1) := by decide +kernel
theorem dX5_findLeads_30 : decode cX5_findLeads 30 = .ok (.aload_n 1, 1) := by decide +kernel
theorem dX5_findLeads_31 : decode cX5_findLeads 31 = .ok (.aload_n 0, 1) := by decide +kernel
theorem dX5_findLeads_32 : decode cX5_findLeads 32 = .ok (.getfield 9, 3) := by decide +kernel
theorem dX5_findLeads_35 : decode cX5_findLeads 35 = .ok (.iload 4, 2) := by decide +kernel
theorem dX5_findLeads_37 : decode cX5_findLeads 37 = .ok (.iaload, 1) := by decide +kernel
theorem dX5_findLeads_38 : decode cX5_findLeads 38 = .ok (.invokevirtual 68, 3) := by decide +kernel
theorem dX5_findLeads_41 : decode cX5_findLeads 41 = .ok (.istore 5, 2) := by decide +kernel
theorem dX5_findLeads_43 : decode cX5_findLeads 43 = .ok (.iload 5, 2) := by decide +kernel
theorem dX5_findLeads_45 : decode cX5_findLeads 45 = .ok (.ifCond .eq 56, 3) := by decide +kernel
theorem dX5_findLeads_48 : decode cX5_findLeads 48 = .ok (.iload 5, 2) := by decide +kernel
theorem dX5_findLeads_50 : decode cX5_findLeads 50 = .ok (.invokestatic 71, 3) := by decide +kernel
theorem dX5_findLeads_53 : decode cX5_findLeads 53 = .ok (.istore 6, 2) := by decide +kernel
theorem dX5_findLeads_55 : decode cX5_findLeads 55 = .ok (.iload 5, 2) := by decide +kernel
theorem dX5_findLeads_57 : decode cX5_findLeads 57 = .ok (.getstatic 75, 3) := by decide +kernel
theorem dX5_findLeads_60 : decode cX5_findLeads 60 = .ok (.iload 6, 2) := by decide +kernel
theorem dX5_findLeads_62 : decode cX5_findLeads 62 = .ok (.iaload, 1) := by decide +kernel
theorem dX5_findLeads_63 : decode cX5_findLeads 63 = .ok (.idiv, 1) := by decide +kernel
theorem dX5_findLeads_64 : decode cX5_findLeads 64 = .ok (.iconst 1, 1) := by decide +kernel
theorem dX5_findLeads_65 : decode cX5_findLeads 65 = .ok (.if_icmp .ne 7, 3) := by decide +kernel
theorem dX5_findLeads_68 : decode cX5_findLeads 68 = .ok (.iconst 1, 1) := by decide +kernel
theorem dX5_findLeads_69 : decode cX5_findLeads 69 = .ok (.goto 4, 3) := by decide +kernel
theorem dX5_findLeads_72 : decode cX5_findLeads 72 = .ok (.iconst 0, 1) := by decide +kernel
theorem dX5_findLeads_73 : decode cX5_findLeads 73 = .ok (.istore 7, 2) := by decide +kernel
theorem dX5_findLeads_75 : decode cX5_findLeads 75 = .ok (.aload_n 1, 1) := by decide +kernel
theorem dX5_findLeads_76 : decode cX5_findLeads 76 = .ok (.iload 6, 2) := by decide +kernel
theorem dX5_findLeads_78 : decode cX5_findLeads 78 = .ok (.iload 7, 2) := by decide +kernel
theorem dX5_findLeads_80 : decode cX5_findLeads 80 = .ok (.ifCond .eq 8, 3) := by decide +kernel
theorem dX5_findLeads_83 : decode cX5_findLeads 83 = .ok (.iload 5, 2) := by decide +kernel
theorem dX5_findLeads_85 : decode cX5_findLeads 85 = .ok (.goto 12, 3) := by decide +kernel
theorem dX5_findLeads_88 : decode cX5_findLeads 88 = .ok (.aload_n 0, 1) := by decide +kernel
theorem dX5_findLeads_89 : decode cX5_findLeads 89 = .ok (.getfield 37, 3) := by decide +kernel
theorem dX5_findLeads_92 : decode cX5_findLeads 92 = .ok (.iload 5, 2) := by decide +kernel
theorem dX5_findLeads_94 : decode cX5_findLeads 94 = .ok (.invokevirtual 78, 3) := by decide +kernel
theorem dX5_findLeads_97 : decode cX5_findLeads 97 = .ok (.iastore, 1) := by decide +kernel
theorem dX5_findLeads_98 : decode cX5_findLeads 98 = .ok (.iinc 3 1, 3) := by decide +kernel
theorem dX5_findLeads_101 : decode cX5_findLeads 101 = .ok (.iinc 4 1, 3) := by decide +kernel
theorem dX5_findLeads_104 : decode cX5_findLeads 104 = .ok (.goto (-94), 3) := by decide +kernel
theorem dX5_findLeads_107 : decode cX5_findLeads 107 = .ok (.iload_n 3, 1) := by decide +kernel
theorem dX5_findLeads_108 : decode cX5_findLeads 108 = .ok (.ireturn, 1) := by decide +kernel
theorem dX5_highestSpice_0 : decode cX5_highestSpice 0 = .ok (.bipush 7, 2) := by decide +kernel
theorem dX5_highestSpice_2 : decode cX5_highestSpice 2 = .ok (.istore_n 1, 1) := by decide +kernel
theorem dX5_highestSpice_3 : decode cX5_highestSpice 3 = .ok (.iload_n 1, 1) := by decide +kernel
theorem dX5_highestSpice_4 : decode cX5_highestSpice 4 = .ok (.ifCond .le 18, 3) := by decide +kernel
theorem dX5_highestSpice_7 : decode cX5_highestSpice 7 = .ok (.iload_n 0, 1) := by decide +kernel
theorem dX5_highestSpice_8 : decode cX5_highestSpice 8 = .ok (.getstatic 75, 3) := by decide +kernel
theorem dX5_highestSpice_11 : decode cX5_highestSpice 11 = .ok (.iload_n 1, 1) := by decide +kernel
theorem dX5_highestSpice_12 : decode cX5_highestSpice 12 = .ok (.iaload, 1) := by decide +kernel
theorem dX5_highestSpice_13 : decode cX5_highestSpice 13 = .ok (.if_icmp .ge 9, 3) := by decide +kernel
theorem dX5_highestSpice_16 : decode cX5_highestSpice 16 = .ok (.iinc 1 (-1), 3) := by decide +kernel
theorem dX5_highestSpice_19 : decode cX5_highestSpice 19 = .ok (.goto (-16), 3) := by decide +kernel
theorem dX5_highestSpice_22 : decode cX5_highestSpice 22 = .ok (.iload_n 1, 1) := by decide +kernel
theorem dX5_highestSpice_23 : decode cX5_highestSpice 23 = .ok (.ireturn, 1) := by decide +kernel
theorem dX5_collectParts_0 : decode cX5_collectParts 0 = .ok (.iconst 0, 1) := by decide +kernel
theorem dX5_collectParts_1 : decode cX5_collectParts 1 = .ok (.istore_n 1, 1) := by decide +kernel
theorem dX5_collectParts_2 : decode cX5_collectParts 2 = .ok (.iconst 0, 1) := by decide +kernel
theorem dX5_collectParts_3 : decode cX5_collectParts 3 = .ok (.istore_n 2, 1) := by decide +kernel
theorem dX5_collectParts_4 : decode cX5_collectParts 4 = .ok (.iload_n 2, 1) := by decide +kernel
theorem dX5_collectParts_5 : decode cX5_collectParts 5 = .ok (.bipush 8, 2) := by decide +kernel
theorem dX5_collectParts_7 : decode cX5_collectParts 7 = .ok (.if_icmp .ge 33, 3) := by decide +kernel
theorem dX5_collectParts_10 : decode cX5_collectParts 10 = .ok (.aload_n 0, 1) := by decide +kernel
theorem dX5_collectParts_11 : decode cX5_collectParts 11 = .ok (.getfield 22, 3) := by decide +kernel
theorem dX5_collectParts_14 : decode cX5_collectParts 14 = .ok (.iload_n 2, 1) := by decide +kernel
theorem dX5_collectParts_15 : decode cX5_collectParts 15 = .ok (.iaload, 1) := by decide +kernel
theorem dX5_collectParts_16 : decode cX5_collectParts 16 = .ok (.ifCond .eq 18, 3) := by decide +kernel
theorem dX5_collectParts_19 : decode cX5_collectParts 19 = .ok (.aload_n 0, 1) := by decide +kernel
theorem dX5_collectParts_20 : decode cX5_collectParts 20 = .ok (.getfield 28, 3) := by decide +kernel
theorem dX5_collectParts_23 : decode cX5_collectParts 23 = .ok (.iload_n 1, 1) := by decide +kernel
theorem dX5_collectParts_24 : decode cX5_collectParts 24 = .ok (.aload_n 0, 1) := by decide +kernel
theorem dX5_collectParts_25 : decode cX5_collectParts 25 = .ok (.getfield 22, 3) := by decide +kernel
theorem dX5_collectParts_28 : decode cX5_collectParts 28 = .ok (.iload_n 2, 1) := by decide +kernel
theorem dX5_collectParts_29 : decode cX5_collectParts 29 = .ok (.iaload, 1) := by decide +kernel
theorem dX5_collectParts_30 : decode cX5_collectParts 30 = .ok (.iastore, 1) := by decide +kernel
theorem dX5_collectParts_31 : decode cX5_collectParts 31 = .ok (.iinc 1 1, 3) := by decide +kernel
theorem dX5_collectParts_34 : decode cX5_collectParts 34 = .ok (.iinc 2 1, 3) := by decide +kernel
theorem dX5_collectParts_37 : decode cX5_collectParts 37 = .ok (.goto (-33), 3) := by decide +kernel
theorem dX5_collectParts_40 : decode cX5_collectParts 40 = .ok (.return_, 1) := by decide +kernel
theorem dX5_reduced_0 : decode cX5_reduced 0 = .ok (.iload_n 2, 1) := by decide +kernel
theorem dX5_reduced_1 : decode cX5_reduced 1 = .ok (.istore_n 3, 1) := by decide +kernel
theorem dX5_reduced_2 : decode cX5_reduced 2 = .ok (.bipush 7, 2) := by decide +kernel
theorem dX5_reduced_4 : decode cX5_reduced 4 = .ok (.istore 4, 2) := by decide +kernel
theorem dX5_reduced_6 : decode cX5_reduced 6 = .ok (.iload 4, 2) := by decide +kernel
theorem dX5_reduced_8 : decode cX5_reduced 8 = .ok (.ifCond .lt 69, 3) := by decide +kernel
theorem dX5_reduced_11 : decode cX5_reduced 11 = .ok (.aload_n 1, 1) := by decide +kernel
theorem dX5_reduced_12 : decode cX5_reduced 12 = .ok (.iload 4, 2) := by decide +kernel
theorem dX5_reduced_14 : decode cX5_reduced 14 = .ok (.iaload, 1) := by decide +kernel
theorem dX5_reduced_15 : decode cX5_reduced 15 = .ok (.ifCond .ne 7, 3) := by decide +kernel
theorem dX5_reduced_18 : decode cX5_reduced 18 = .ok (.iconst 0, 1) := by decide +kernel
theorem dX5_reduced_19 : decode cX5_reduced 19 = .ok (.goto 13, 3) := by decide +kernel
theorem dX5_reduced_22 : decode cX5_reduced 22 = .ok (.iload_n 3, 1) := by decide +kernel
theorem dX5_reduced_23 : decode cX5_reduced 23 = .ok (.getstatic 75, 3) := by decide +kernel
theorem dX5_reduced_26 : decode cX5_reduced 26 = .ok (.iload 4, 2) := by decide +kernel
theorem dX5_reduced_28 : decode cX5_reduced 28 = .ok (.iaload, 1) := by decide +kernel
theorem dX5_reduced_29 : decode cX5_reduced 29 = .ok (.idiv, 1) := by decide +kernel
theorem dX5_reduced_30 : decode cX5_reduced 30 = .ok (.iconst 3, 1) := by decide +kernel
theorem dX5_reduced_31 : decode cX5_reduced 31 = .ok (.irem, 1) := by decide +kernel
theorem dX5_reduced_32 : decode cX5_reduced 32 = .ok (.istore 5, 2) := by decide +kernel
theorem dX5_reduced_34 : decode cX5_reduced 34 = .ok (.iload 5, 2) := by decide +kernel
theorem dX5_reduced_36 : decode cX5_reduced 36 = .ok (.ifCond .le 16, 3) := by decide +kernel
theorem dX5_reduced_39 : decode cX5_reduced 39 = .ok (.aload_n 0, 1) := by decide +kernel
theorem dX5_reduced_40 : decode cX5_reduced 40 = .ok (.getfield 37, 3) := by decide +kernel
theorem dX5_reduced_43 : decode cX5_reduced 43 = .ok (.iload_n 3, 1) := by decide +kernel
theorem dX5_reduced_44 : decode cX5_reduced 44 = .ok (.aload_n 1, 1) := by decide +kernel
theorem dX5_reduced_45 : decode cX5_reduced 45 = .ok (.iload 4, 2) := by decide +kernel
theorem dX5_reduced_47 : decode cX5_reduced 47 = .ok (.iaload, 1) := by decide +kernel
theorem dX5_reduced_48 : decode cX5_reduced 48 = .ok (.invokevirtual 83, 3) := by decide +kernel
theorem dX5_reduced_51 : decode cX5_reduced 51 = .ok (.istore_n 3, 1) := by decide +kernel
theorem dX5_reduced_52 : decode cX5_reduced 52 = .ok (.iload 5, 2) := by decide +kernel
theorem dX5_reduced_54 : decode cX5_reduced 54 = .ok (.iconst 1, 1) := by decide +kernel
theorem dX5_reduced_55 : decode cX5_reduced 55 = .ok (.if_icmp .ne 16, 3) := by decide +kernel
theorem dX5_reduced_58 : decode cX5_reduced 58 = .ok (.aload_n 0, 1) := by decide +kernel
theorem dX5_reduced_59 : decode cX5_reduced 59 = .ok (.getfield 37, 3) := by decide +kernel
theorem dX5_reduced_62 : decode cX5_reduced 62 = .ok (.iload_n 3, 1) := by decide +kernel
theorem dX5_reduced_63 : decode cX5_reduced 63 = .ok (.aload_n 1, 1) := by decide +kernel
theorem dX5_reduced_64 : decode cX5_reduced 64 = .ok (.iload 4, 2) := by decide +kernel
theorem dX5_reduced_66 : decode cX5_reduced 66 = .ok (.iaload, 1) := by decide +kernel
theorem dX5_reduced_67 : decode cX5_reduced 67 = .ok (.invokevirtual 83, 3) := by decide +kernel
theorem dX5_reduced_70 : decode cX5_reduced 70 = .ok (.istore_n 3, 1) := by decide +kernel
theorem dX5_reduced_71 : decode cX5_reduced 71 = .ok (.iinc 4 (-1), 3) := by decide +kernel
theorem dX5_reduced_74 : decode cX5_reduced 74 = .ok (.goto (-68), 3) := by decide +kernel
theorem dX5_reduced_77 : decode cX5_reduced 77 = .ok (.iload_n 3, 1) := by decide +kernel
theorem dX5_reduced_78 : decode cX5_reduced 78 = .ok (.ireturn, 1) := by decide +kernel
theorem dX5_leastLike_0 : decode cX5_leastLike 0 = .ok (.aload_n 0, 1) := by decide +kernel
theorem dX5_leastLike_1 : decode cX5_leastLike 1 = .ok (.aload_n 0, 1) := by decide +kernel
theorem dX5_leastLike_2 : decode cX5_leastLike 2 = .ok (.getfield 22, 3) := by decide +kernel
theorem dX5_leastLike_5 : decode cX5_leastLike 5 = .ok (.iload_n 1, 1) := by decide +kernel
theorem dX5_leastLike_6 : decode cX5_leastLike 6 = .ok (.invokevirtual 68, 3) := by decide +kernel
theorem dX5_leastLike_9 : decode cX5_leastLike 9 = .ok (.ireturn, 1) := by decide +kernel
theorem dX5_firstJarLike_0 : decode cX5_firstJarLike 0 = .ok (.iconst 0, 1) := by decide +kernel
theorem dX5_firstJarLike_1 : decode cX5_firstJarLike 1 = .ok (.istore_n 3, 1) := by decide +kernel
theorem dX5_firstJarLike_2 : decode cX5_firstJarLike 2 = .ok (.iload_n 3, 1) := by decide +kernel
theorem dX5_firstJarLike_3 : decode cX5_firstJarLike 3 = .ok (.aload_n 2, 1) := by decide +kernel
theorem dX5_firstJarLike_4 : decode cX5_firstJarLike 4 = .ok (.getfield 87, 3) := by decide +kernel
theorem dX5_firstJarLike_7 : decode cX5_firstJarLike 7 = .ok (.if_icmp .ge 25, 3) := by decide +kernel
theorem dX5_firstJarLike_10 : decode cX5_firstJarLike 10 = .ok (.aload_n 0, 1) := by decide +kernel
theorem dX5_firstJarLike_11 : decode cX5_firstJarLike 11 = .ok (.aload_n 2, 1) := by decide +kernel
theorem dX5_firstJarLike_12 : decode cX5_firstJarLike 12 = .ok (.getfield 90, 3) := by decide +kernel
theorem dX5_firstJarLike_15 : decode cX5_firstJarLike 15 = .ok (.iload_n 3, 1) := by decide +kernel
theorem dX5_firstJarLike_16 : decode cX5_firstJarLike 16 = .ok (.iaload, 1) := by decide +kernel
theorem dX5_firstJarLike_17 : decode cX5_firstJarLike 17 = .ok (.invokevirtual 92, 3) := by decide +kernel
theorem dX5_firstJarLike_20 : decode cX5_firstJarLike 20 = .ok (.iload_n 1, 1) := by decide +kernel
theorem dX5_firstJarLike_21 : decode cX5_firstJarLike 21 = .ok (.if_icmp .ne 5, 3) := by decide +kernel
theorem dX5_firstJarLike_24 : decode cX5_firstJarLike 24 = .ok (.iload_n 3, 1) := by decide +kernel
theorem dX5_firstJarLike_25 : decode cX5_firstJarLike 25 = .ok (.ireturn, 1) := by decide +kernel
theorem dX5_firstJarLike_26 : decode cX5_firstJarLike 26 = .ok (.iinc 3 1, 3) := by decide +kernel
theorem dX5_firstJarLike_29 : decode cX5_firstJarLike 29 = .ok (.goto (-27), 3) := by decide +kernel
theorem dX5_firstJarLike_32 : decode cX5_firstJarLike 32 = .ok (.bipush (-5), 2) := by decide +kernel
theorem dX5_firstJarLike_34 : decode cX5_firstJarLike 34 = .ok (.ireturn, 1) := by decide +kernel
theorem dX5_someBlandLeads_0 : decode cX5_someBlandLeads 0 = .ok (.iload_n 1, 1) := by decide +kernel
theorem dX5_someBlandLeads_1 : decode cX5_someBlandLeads 1 = .ok (.istore_n 3, 1) := by decide +kernel
theorem dX5_someBlandLeads_2 : decode cX5_someBlandLeads 2 = .ok (.iconst 1, 1) := by decide +kernel
theorem dX5_someBlandLeads_3 : decode cX5_someBlandLeads 3 = .ok (.istore 4, 2) := by decide +kernel
theorem dX5_someBlandLeads_5 : decode cX5_someBlandLeads 5 = .ok (.iload 4, 2) := by decide +kernel
theorem dX5_someBlandLeads_7 : decode cX5_someBlandLeads 7 = .ok (.getstatic 75, 3) := by decide +kernel
theorem dX5_someBlandLeads_10 : decode cX5_someBlandLeads 10 = .ok (.aload_n 0, 1) := by decide +kernel
theorem dX5_someBlandLeads_11 : decode cX5_someBlandLeads 11 = .ok (.getfield 19, 3) := by decide +kernel
theorem dX5_someBlandLeads_14 : decode cX5_someBlandLeads 14 = .ok (.iaload, 1) := by decide +kernel
theorem dX5_someBlandLeads_15 : decode cX5_someBlandLeads 15 = .ok (.if_icmp .ge 22, 3) := by decide +kernel
theorem dX5_someBlandLeads_18 : decode cX5_someBlandLeads 18 = .ok (.iload_n 3, 1) := by decide +kernel
theorem dX5_someBlandLeads_19 : decode cX5_someBlandLeads 19 = .ok (.iload_n 2, 1) := by decide +kernel
theorem dX5_someBlandLeads_20 : decode cX5_someBlandLeads 20 = .ok (.if_icmp .eq 17, 3) := by decide +kernel
theorem dX5_someBlandLeads_23 : decode cX5_someBlandLeads 23 = .ok (.aload_n 0, 1) := by decide +kernel
theorem dX5_someBlandLeads_24 : decode cX5_someBlandLeads 24 = .ok (.iload_n 3, 1) := by decide +kernel
theorem dX5_someBlandLeads_25 : decode cX5_someBlandLeads 25 = .ok (.iload 4, 2) := by decide +kernel
theorem dX5_someBlandLeads_27 : decode cX5_someBlandLeads 27 = .ok (.invokevirtual 95, 3) := by decide +kernel
theorem dX5_someBlandLeads_30 : decode cX5_someBlandLeads 30 = .ok (.istore_n 3, 1) := by decide +kernel
theorem dX5_someBlandLeads_31 : decode cX5_someBlandLeads 31 = .ok (.iinc 4 1, 3) := by decide +kernel
theorem dX5_someBlandLeads_34 : decode cX5_someBlandLeads 34 = .ok (.goto (-29), 3) := by decide +kernel
theorem dX5_someBlandLeads_37 : decode cX5_someBlandLeads 37 = .ok (.iload_n 3, 1) := by decide +kernel
theorem dX5_someBlandLeads_38 : decode cX5_someBlandLeads 38 = .ok (.iload_n 2, 1) := by decide +kernel
theorem dX5_someBlandLeads_39 : decode cX5_someBlandLeads 39 = .ok (.if_icmp .ne 7, 3) := by decide +kernel
theorem dX5_someBlandLeads_42 : decode cX5_someBlandLeads 42 = .ok (.iconst 1, 1) := by decide +kernel
theorem dX5_someBlandLeads_43 : decode cX5_someBlandLeads 43 = .ok (.goto 4, 3) := by decide +kernel
theorem dX5_someBlandLeads_46 : decode cX5_someBlandLeads 46 = .ok (.iconst 0, 1) := by decide +kernel
theorem dX5_someBlandLeads_47 : decode cX5_someBlandLeads 47 = .ok (.ireturn, 1) := by decide +kernel
theorem dX5_nextLike_0 : decode cX5_nextLike 0 = .ok (.iconst 0, 1) := by decide +kernel
theorem dX5_nextLike_1 : decode cX5_nextLike 1 = .ok (.istore_n 3, 1) := by decide +kernel
theorem dX5_nextLike_2 : decode cX5_nextLike 2 = .ok (.iload_n 2, 1) := by decide +kernel
theorem dX5_nextLike_3 : decode cX5_nextLike 3 = .ok (.istore 4, 2) := by decide +kernel
theorem dX5_nextLike_5 : decode cX5_nextLike 5 = .ok (.iload_n 3, 1) := by decide +kernel
theorem dX5_nextLike_6 : decode cX5_nextLike 6 = .ok (.bipush 7, 2) := by decide +kernel
theorem dX5_nextLike_8 : decode cX5_nextLike 8 = .ok (.if_icmp .ge 22, 3) := by decide +kernel
theorem dX5_nextLike_11 : decode cX5_nextLike 11 = .ok (.iload 4, 2) := by decide +kernel
theorem dX5_nextLike_13 : decode cX5_nextLike 13 = .ok (.iconst 3, 1) := by decide +kernel
theorem dX5_nextLike_14 : decode cX5_nextLike 14 = .ok (.irem, 1) := by decide +kernel
theorem dX5_nextLike_15 : decode cX5_nextLike 15 = .ok (.ifCond .ne 15, 3) := by decide +kernel
theorem dX5_nextLike_18 : decode cX5_nextLike 18 = .ok (.iload 4, 2) := by decide +kernel
theorem dX5_nextLike_20 : decode cX5_nextLike 20 = .ok (.iconst 3, 1) := by decide +kernel
theorem dX5_nextLike_21 : decode cX5_nextLike 21 = .ok (.idiv, 1) := by decide +kernel
theorem dX5_nextLike_22 : decode cX5_nextLike 22 = .ok (.istore 4, 2) := by decide +kernel
theorem dX5_nextLike_24 : decode cX5_nextLike 24 = .ok (.iinc 3 1, 3) := by decide +kernel
theorem dX5_nextLike_27 : decode cX5_nextLike 27 = .ok (.goto (-22), 3) := by decide +kernel
theorem dX5_nextLike_30 : decode cX5_nextLike 30 = .ok (.aload_n 0, 1) := by decide +kernel
theorem dX5_nextLike_31 : decode cX5_nextLike 31 = .ok (.getfield 37, 3) := by decide +kernel
theorem dX5_nextLike_34 : decode cX5_nextLike 34 = .ok (.iload_n 1, 1) := by decide +kernel
theorem dX5_nextLike_35 : decode cX5_nextLike 35 = .ok (.aload_n 0, 1) := by decide +kernel
theorem dX5_nextLike_36 : decode cX5_nextLike 36 = .ok (.getfield 28, 3) := by decide +kernel
theorem dX5_nextLike_39 : decode cX5_nextLike 39 = .ok (.iload_n 3, 1) := by decide +kernel
theorem dX5_nextLike_40 : decode cX5_nextLike 40 = .ok (.iaload, 1) := by decide +kernel
theorem dX5_nextLike_41 : decode cX5_nextLike 41 = .ok (.invokevirtual 83, 3) := by decide +kernel
theorem dX5_nextLike_44 : decode cX5_nextLike 44 = .ok (.ireturn, 1) := by decide +kernel
theorem dX5_cheapestLike_0 : decode cX5_cheapestLike 0 = .ok (.aload_n 0, 1) := by decide +kernel
theorem dX5_cheapestLike_1 : decode cX5_cheapestLike 1 = .ok (.aload_n 2, 1) := by decide +kernel
theorem dX5_cheapestLike_2 : decode cX5_cheapestLike 2 = .ok (.invokevirtual 98, 3) := by decide +kernel
theorem dX5_cheapestLike_5 : decode cX5_cheapestLike 5 = .ok (.iload_n 1, 1) := by decide +kernel
theorem dX5_cheapestLike_6 : decode cX5_cheapestLike 6 = .ok (.istore_n 3, 1) := by decide +kernel
theorem dX5_cheapestLike_7 : decode cX5_cheapestLike 7 = .ok (.iload_n 1, 1) := by decide +kernel
theorem dX5_cheapestLike_8 : decode cX5_cheapestLike 8 = .ok (.aload_n 2, 1) := by decide +kernel
theorem dX5_cheapestLike_9 : decode cX5_cheapestLike 9 = .ok (.invokestatic 102, 3) := by decide +kernel
theorem dX5_cheapestLike_12 : decode cX5_cheapestLike 12 = .ok (.istore 4, 2) := by decide +kernel
theorem dX5_cheapestLike_14 : decode cX5_cheapestLike 14 = .ok (.iload_n 1, 1) := by decide +kernel
theorem dX5_cheapestLike_15 : decode cX5_cheapestLike 15 = .ok (.istore 5, 2) := by decide +kernel
theorem dX5_cheapestLike_17 : decode cX5_cheapestLike 17 = .ok (.iconst 1, 1) := by decide +kernel
theorem dX5_cheapestLike_18 : decode cX5_cheapestLike 18 = .ok (.istore 6, 2) := by decide +kernel
theorem dX5_cheapestLike_20 : decode cX5_cheapestLike 20 = .ok (.iload 6, 2) := by decide +kernel
theorem dX5_cheapestLike_22 : decode cX5_cheapestLike 22 = .ok (.getstatic 75, 3) := by decide +kernel
theorem dX5_cheapestLike_25 : decode cX5_cheapestLike 25 = .ok (.aload_n 0, 1) := by decide +kernel
theorem dX5_cheapestLike_26 : decode cX5_cheapestLike 26 = .ok (.getfield 19, 3) := by decide +kernel
theorem dX5_cheapestLike_29 : decode cX5_cheapestLike 29 = .ok (.iaload, 1) := by decide +kernel
theorem dX5_cheapestLike_30 : decode cX5_cheapestLike 30 = .ok (.if_icmp .ge 69, 3) := by decide +kernel
theorem dX5_cheapestLike_33 : decode cX5_cheapestLike 33 = .ok (.aload_n 0, 1) := by decide +kernel
theorem dX5_cheapestLike_34 : decode cX5_cheapestLike 34 = .ok (.iload 5, 2) := by decide +kernel
theorem dX5_cheapestLike_36 : decode cX5_cheapestLike 36 = .ok (.iload 6, 2) := by decide +kernel
theorem dX5_cheapestLike_38 : decode cX5_cheapestLike 38 = .ok (.invokevirtual 95, 3) := by decide +kernel
theorem dX5_cheapestLike_41 : decode cX5_cheapestLike 41 = .ok (.istore 5, 2) := by decide +kernel
theorem dX5_cheapestLike_43 : decode cX5_cheapestLike 43 = .ok (.aload_n 0, 1) := by decide +kernel
theorem dX5_cheapestLike_44 : decode cX5_cheapestLike 44 = .ok (.getfield 31, 3) := by decide +kernel
theorem dX5_cheapestLike_47 : decode cX5_cheapestLike 47 = .ok (.iload 5, 2) := by decide +kernel
theorem dX5_cheapestLike_49 : decode cX5_cheapestLike 49 = .ok (.bipush 81, 2) := by decide +kernel
theorem dX5_cheapestLike_51 : decode cX5_cheapestLike 51 = .ok (.irem, 1) := by decide +kernel
theorem dX5_cheapestLike_52 : decode cX5_cheapestLike 52 = .ok (.iaload, 1) := by decide +kernel
theorem dX5_cheapestLike_53 : decode cX5_cheapestLike 53 = .ok (.aload_n 0, 1) := by decide +kernel
theorem dX5_cheapestLike_54 : decode cX5_cheapestLike 54 = .ok (.getfield 34, 3) := by decide +kernel
theorem dX5_cheapestLike_57 : decode cX5_cheapestLike 57 = .ok (.iload 5, 2) := by decide +kernel
theorem dX5_cheapestLike_59 : decode cX5_cheapestLike 59 = .ok (.bipush 81, 2) := by decide +kernel
theorem dX5_cheapestLike_61 : decode cX5_cheapestLike 61 = .ok (.idiv, 1) := by decide +kernel
theorem dX5_cheapestLike_62 : decode cX5_cheapestLike 62 = .ok (.iaload, 1) := by decide +kernel
theorem dX5_cheapestLike_63 : decode cX5_cheapestLike 63 = .ok (.iadd, 1) := by decide +kernel
theorem dX5_cheapestLike_64 : decode cX5_cheapestLike 64 = .ok (.istore 7, 2) := by decide +kernel
theorem dX5_cheapestLike_66 : decode cX5_cheapestLike 66 = .ok (.iload 7, 2) := by decide +kernel
theorem dX5_cheapestLike_68 : decode cX5_cheapestLike 68 = .ok (.iload 4, 2) := by decide +kernel
theorem dX5_cheapestLike_70 : decode cX5_cheapestLike 70 = .ok (.if_icmp .lt 16, 3) := by decide +kernel
theorem dX5_cheapestLike_73 : decode cX5_cheapestLike 73 = .ok (.iload 7, 2) := by decide +kernel
theorem dX5_cheapestLike_75 : decode cX5_cheapestLike 75 = .ok (.iload 4, 2) := by decide +kernel
theorem dX5_cheapestLike_77 : decode cX5_cheapestLike 77 = .ok (.if_icmp .ne 16, 3) := by decide +kernel
theorem dX5_cheapestLike_80 : decode cX5_cheapestLike 80 = .ok (.iload 5, 2) := by decide +kernel
theorem dX5_cheapestLike_82 : decode cX5_cheapestLike 82 = .ok (.iload_n 3, 1) := by decide +kernel
theorem dX5_cheapestLike_83 : decode cX5_cheapestLike 83 = .ok (.if_icmp .ge 10, 3) := by decide +kernel
theorem dX5_cheapestLike_86 : decode cX5_cheapestLike 86 = .ok (.iload 5, 2) := by decide +kernel
theorem dX5_cheapestLike_88 : decode cX5_cheapestLike 88 = .ok (.istore_n 3, 1) := by decide +kernel
theorem dX5_cheapestLike_89 : decode cX5_cheapestLike 89 = .ok (.iload 7, 2) := by decide +kernel
theorem dX5_cheapestLike_91 : decode cX5_cheapestLike 91 = .ok (.istore 4, 2) := by decide +kernel
theorem dX5_cheapestLike_93 : decode cX5_cheapestLike 93 = .ok (.iinc 6 1, 3) := by decide +kernel
theorem dX5_cheapestLike_96 : decode cX5_cheapestLike 96 = .ok (.goto (-76), 3) := by decide +kernel
theorem dX5_cheapestLike_99 : decode cX5_cheapestLike 99 = .ok (.iload_n 3, 1) := by decide +kernel
theorem dX5_cheapestLike_100 : decode cX5_cheapestLike 100 = .ok (.ireturn, 1) := by decide +kernel
theorem dX5_fillCosts_0 : decode cX5_fillCosts 0 = .ok (.iconst 0, 1) := by decide +kernel
theorem dX5_fillCosts_1 : decode cX5_fillCosts 1 = .ok (.istore_n 2, 1) := by decide +kernel
theorem dX5_fillCosts_2 : decode cX5_fillCosts 2 = .ok (.iload_n 2, 1) := by decide +kernel
theorem dX5_fillCosts_3 : decode cX5_fillCosts 3 = .ok (.bipush 81, 2) := by decide +kernel
theorem dX5_fillCosts_5 : decode cX5_fillCosts 5 = .ok (.if_icmp .ge 34, 3) := by decide +kernel
theorem dX5_fillCosts_8 : decode cX5_fillCosts 8 = .ok (.aload_n 0, 1) := by decide +kernel
theorem dX5_fillCosts_9 : decode cX5_fillCosts 9 = .ok (.getfield 31, 3) := by decide +kernel
theorem dX5_fillCosts_12 : decode cX5_fillCosts 12 = .ok (.iload_n 2, 1) := by decide +kernel
theorem dX5_fillCosts_13 : decode cX5_fillCosts 13 = .ok (.iload_n 2, 1) := by decide +kernel
theorem dX5_fillCosts_14 : decode cX5_fillCosts 14 = .ok (.aload_n 1, 1) := by decide +kernel
theorem dX5_fillCosts_15 : decode cX5_fillCosts 15 = .ok (.invokestatic 102, 3) := by decide +kernel
theorem dX5_fillCosts_18 : decode cX5_fillCosts 18 = .ok (.iastore, 1) := by decide +kernel
theorem dX5_fillCosts_19 : decode cX5_fillCosts 19 = .ok (.aload_n 0, 1) := by decide +kernel
theorem dX5_fillCosts_20 : decode cX5_fillCosts 20 = .ok (.getfield 34, 3) := by decide +kernel
theorem dX5_fillCosts_23 : decode cX5_fillCosts 23 = .ok (.iload_n 2, 1) := by decide +kernel
theorem dX5_fillCosts_24 : decode cX5_fillCosts 24 = .ok (.iload_n 2, 1) := by decide +kernel
theorem dX5_fillCosts_25 : decode cX5_fillCosts 25 = .ok (.bipush 81, 2) := by decide +kernel
theorem dX5_fillCosts_27 : decode cX5_fillCosts 27 = .ok (.imul, 1) := by decide +kernel
theorem dX5_fillCosts_28 : decode cX5_fillCosts 28 = .ok (.aload_n 1, 1) := by decide +kernel
theorem dX5_fillCosts_29 : decode cX5_fillCosts 29 = .ok (.invokestatic 102, 3) := by decide +kernel
theorem dX5_fillCosts_32 : decode cX5_fillCosts 32 = .ok (.iastore, 1) := by decide +kernel
theorem dX5_fillCosts_33 : decode cX5_fillCosts 33 = .ok (.iinc 2 1, 3) := by decide +kernel
theorem dX5_fillCosts_36 : decode cX5_fillCosts 36 = .ok (.goto (-34), 3) := by decide +kernel
theorem dX5_fillCosts_39 : decode cX5_fillCosts 39 = .ok (.return_, 1) := by decide +kernel
theorem dX5_firstNeedless_0 : decode cX5_firstNeedless 0 = .ok (.iconst 0, 1) := by decide +kernel
theorem dX5_firstNeedless_1 : decode cX5_firstNeedless 1 = .ok (.istore_n 1, 1) := by decide +kernel
theorem dX5_firstNeedless_2 : decode cX5_firstNeedless 2 = .ok (.iload_n 1, 1) := by decide +kernel
theorem dX5_firstNeedless_3 : decode cX5_firstNeedless 3 = .ok (.aload_n 0, 1) := by decide +kernel
theorem dX5_firstNeedless_4 : decode cX5_firstNeedless 4 = .ok (.getfield 15, 3) := by decide +kernel
theorem dX5_firstNeedless_7 : decode cX5_firstNeedless 7 = .ok (.if_icmp .ge 27, 3) := by decide +kernel
theorem dX5_firstNeedless_10 : decode cX5_firstNeedless 10 = .ok (.aload_n 0, 1) := by decide +kernel
theorem dX5_firstNeedless_11 : decode cX5_firstNeedless 11 = .ok (.aload_n 0, 1) := by decide +kernel
theorem dX5_firstNeedless_12 : decode cX5_firstNeedless 12 = .ok (.getfield 25, 3) := by decide +kernel
theorem dX5_firstNeedless_15 : decode cX5_firstNeedless 15 = .ok (.iload_n 1, 1) := by decide +kernel
theorem dX5_firstNeedless_16 : decode cX5_firstNeedless 16 = .ok (.invokevirtual 55, 3) := by decide +kernel
theorem dX5_firstNeedless_19 : decode cX5_firstNeedless 19 = .ok (.aload_n 0, 1) := by decide +kernel
theorem dX5_firstNeedless_20 : decode cX5_firstNeedless 20 = .ok (.getfield 19, 3) := by decide +kernel
theorem dX5_firstNeedless_23 : decode cX5_firstNeedless 23 = .ok (.if_icmp .ne 5, 3) := by decide +kernel
theorem dX5_firstNeedless_26 : decode cX5_firstNeedless 26 = .ok (.iload_n 1, 1) := by decide +kernel
theorem dX5_firstNeedless_27 : decode cX5_firstNeedless 27 = .ok (.ireturn, 1) := by decide +kernel
theorem dX5_firstNeedless_28 : decode cX5_firstNeedless 28 = .ok (.iinc 1 1, 3) := by decide +kernel
theorem dX5_firstNeedless_31 : decode cX5_firstNeedless 31 = .ok (.goto (-29), 3) := by decide +kernel
theorem dX5_firstNeedless_34 : decode cX5_firstNeedless 34 = .ok (.bipush (-5), 2) := by decide +kernel
theorem dX5_firstNeedless_36 : decode cX5_firstNeedless 36 = .ok (.ireturn, 1) := by decide +kernel
theorem dX6_init_0 : decode cX6_init 0 = .ok (.aload_n 0, 1) := by decide +kernel
theorem dX6_init_1 : decode cX6_init 1 = .ok (.invokespecial 3, 3) := by decide +kernel
theorem dX6_init_4 : decode cX6_init 4 = .ok (.aload_n 0, 1) := by decide +kernel
theorem dX6_init_5 : decode cX6_init 5 = .ok (.bipush 60, 2) := by decide +kernel
theorem dX6_init_7 : decode cX6_init 7 = .ok (.newarray .char, 2) := by decide +kernel
theorem dX6_init_9 : decode cX6_init 9 = .ok (.putfield 9, 3) := by decide +kernel
theorem dX6_init_12 : decode cX6_init 12 = .ok (.aload_n 0, 1) := by decide +kernel
theorem dX6_init_13 : decode cX6_init 13 = .ok (.iconst 0, 1) := by decide +kernel
theorem dX6_init_14 : decode cX6_init 14 = .ok (.putfield 15, 3) := by decide +kernel
theorem dX6_init_17 : decode cX6_init 17 = .ok (.aload_n 0, 1) := by decide +kernel
theorem dX6_init_18 : decode cX6_init 18 = .ok (.iconst 0, 1) := by decide +kernel
theorem dX6_init_19 : decode cX6_init 19 = .ok (.putfield 19, 3) := by decide +kernel
theorem dX6_init_22 : decode cX6_init 22 = .ok (.aload_n 0, 1) := by decide +kernel
theorem dX6_init_23 : decode cX6_init 23 = .ok (.iconst (-1), 1) := by decide +kernel
theorem dX6_init_24 : decode cX6_init 24 = .ok (.putfield 22, 3) := by decide +kernel
theorem dX6_init_27 : decode cX6_init 27 = .ok (.aload_n 0, 1) := by decide +kernel
theorem dX6_init_28 : decode cX6_init 28 = .ok (.bipush 8, 2) := by decide +kernel
theorem dX6_init_30 : decode cX6_init 30 = .ok (.newarray .int, 2) := by decide +kernel
theorem dX6_init_32 : decode cX6_init 32 = .ok (.putfield 25, 3) := by decide +kernel
theorem dX6_init_35 : decode cX6_init 35 = .ok (.aload_n 0, 1) := by decide +kernel
theorem dX6_init_36 : decode cX6_init 36 = .ok (.iconst 0, 1) := by decide +kernel
theorem dX6_init_37 : decode cX6_init 37 = .ok (.putfield 29, 3) := by decide +kernel
theorem dX6_init_40 : decode cX6_init 40 = .ok (.aload_n 0, 1) := by decide +kernel
theorem dX6_init_41 : decode cX6_init 41 = .ok (.iconst 0, 1) := by decide +kernel
theorem dX6_init_42 : decode cX6_init 42 = .ok (.putfield 32, 3) := by decide +kernel
theorem dX6_init_45 : decode cX6_init 45 = .ok (.return_, 1) := by decide +kernel
theorem dX7_init_0 : decode cX7_init 0 = .ok (.aload_n 0, 1) := by decide +kernel
theorem dX7_init_1 : decode cX7_init 1 = .ok (.invokespecial 1, 3) := by decide +kernel
theorem dX7_init_4 : decode cX7_init 4 = .ok (.aload_n 0, 1) := by decide +kernel
theorem dX7_init_5 : decode cX7_init 5 = .ok (.new 7, 3) := by decide +kernel
theorem dX7_init_8 : decode cX7_init 8 = .ok (.dup, 1) := by decide +kernel
theorem dX7_init_9 : decode cX7_init 9 = .ok (.invokespecial 9, 3) := by decide +kernel
theorem dX7_init_12 : decode cX7_init 12 = .ok (.putfield 10, 3) := by decide +kernel
theorem dX7_init_15 : decode cX7_init 15 = .ok (.aload_n 0, 1) := by decide +kernel
theorem dX7_init_16 : decode cX7_init 16 = .ok (.new 16, 3) := by decide +kernel
theorem dX7_init_19 : decode cX7_init 19 = .ok (.dup, 1) := by decide +kernel
theorem dX7_init_20 : decode cX7_init 20 = .ok (.aload_n 0, 1) := by decide +kernel
theorem dX7_init_21 : decode cX7_init 21 = .ok (.getfield 10, 3) := by decide +kernel
theorem dX7_init_24 : decode cX7_init 24 = .ok (.invokespecial 18, 3) := by decide +kernel
theorem dX7_init_27 : decode cX7_init 27 = .ok (.putfield 21, 3) := by decide +kernel
theorem dX7_init_30 : decode cX7_init 30 = .ok (.aload_n 0, 1) := by decide +kernel
theorem dX7_init_31 : decode cX7_init 31 = .ok (.new 25, 3) := by decide +kernel
theorem dX7_init_34 : decode cX7_init 34 = .ok (.dup, 1) := by decide +kernel
theorem dX7_init_35 : decode cX7_init 35 = .ok (.invokespecial 27, 3) := by decide +kernel
theorem dX7_init_38 : decode cX7_init 38 = .ok (.putfield 28, 3) := by decide +kernel
theorem dX7_init_41 : decode cX7_init 41 = .ok (.aload_n 0, 1) := by decide +kernel
theorem dX7_init_42 : decode cX7_init 42 = .ok (.new 25, 3) := by decide +kernel
theorem dX7_init_45 : decode cX7_init 45 = .ok (.dup, 1) := by decide +kernel
theorem dX7_init_46 : decode cX7_init 46 = .ok (.invokespecial 27, 3) := by decide +kernel
theorem dX7_init_49 : decode cX7_init 49 = .ok (.putfield 32, 3) := by decide +kernel
theorem dX7_init_52 : decode cX7_init 52 = .ok (.aload_n 0, 1) := by decide +kernel
theorem dX7_init_53 : decode cX7_init 53 = .ok (.iconst 0, 1) := by decide +kernel
theorem dX7_init_54 : decode cX7_init 54 = .ok (.putfield 35, 3) := by decide +kernel
theorem dX7_init_57 : decode cX7_init 57 = .ok (.aload_n 0, 1) := by decide +kernel
theorem dX7_init_58 : decode cX7_init 58 = .ok (.new 39, 3) := by decide +kernel
theorem dX7_init_61 : decode cX7_init 61 = .ok (.dup, 1) := by decide +kernel
theorem dX7_init_62 : decode cX7_init 62 = .ok (.invokespecial 41, 3) := by decide +kernel
theorem dX7_init_65 : decode cX7_init 65 = .ok (.putfield 42, 3) := by decide +kernel
theorem dX7_init_68 : decode cX7_init 68 = .ok (.aload_n 0, 1) := by decide +kernel
theorem dX7_init_69 : decode cX7_init 69 = .ok (.new 46, 3) := by decide +kernel
theorem dX7_init_72 : decode cX7_init 72 = .ok (.dup, 1) := by decide +kernel
theorem dX7_init_73 : decode cX7_init 73 = .ok (.aload_n 0, 1) := by decide +kernel
theorem dX7_init_74 : decode cX7_init 74 = .ok (.getfield 28, 3) := by decide +kernel
theorem dX7_init_77 : decode cX7_init 77 = .ok (.aload_n 0, 1) := by decide +kernel
theorem dX7_init_78 : decode cX7_init 78 = .ok (.getfield 10, 3) := by decide +kernel
theorem dX7_init_81 : decode cX7_init 81 = .ok (.aload_n 0, 1) := by decide +kernel
theorem dX7_init_82 : decode cX7_init 82 = .ok (.getfield 21, 3) := by decide +kernel
theorem dX7_init_85 : decode cX7_init 85 = .ok (.invokespecial 48, 3) := by decide +kernel
theorem dX7_init_88 : decode cX7_init 88 = .ok (.putfield 51, 3) := by decide +kernel
theorem dX7_init_91 : decode cX7_init 91 = .ok (.aload_n 0, 1) := by decide +kernel
theorem dX7_init_92 : decode cX7_init 92 = .ok (.new 55, 3) := by decide +kernel
theorem dX7_init_95 : decode cX7_init 95 = .ok (.dup, 1) := by decide +kernel
theorem dX7_init_96 : decode cX7_init 96 = .ok (.invokespecial 57, 3) := by decide +kernel
theorem dX7_init_99 : decode cX7_init 99 = .ok (.putfield 58, 3) := by decide +kernel
theorem dX7_init_102 : decode cX7_init 102 = .ok (.aload_n 0, 1) := by decide +kernel
theorem dX7_init_103 : decode cX7_init 103 = .ok (.new 62, 3) := by decide +kernel
theorem dX7_init_106 : decode cX7_init 106 = .ok (.dup, 1) := by decide +kernel
theorem dX7_init_107 : decode cX7_init 107 = .ok (.aload_n 0, 1) := by decide +kernel
theorem dX7_init_108 : decode cX7_init 108 = .ok (.getfield 10, 3) := by decide +kernel
theorem dX7_init_111 : decode cX7_init 111 = .ok (.invokespecial 64, 3) := by decide +kernel
theorem dX7_init_114 : decode cX7_init 114 = .ok (.putfield 65, 3) := by decide +kernel
theorem dX7_init_117 : decode cX7_init 117 = .ok (.return_, 1) := by decide +kernel
theorem dX7_jar_0 : decode cX7_jar 0 = .ok (.aload_n 0, 1) := by decide +kernel
theorem dX7_jar_1 : decode cX7_jar 1 = .ok (.getfield 42, 3) := by decide +kernel
theorem dX7_jar_4 : decode cX7_jar 4 = .ok (.aload_n 0, 1) := by decide +kernel
theorem dX7_jar_5 : decode cX7_jar 5 = .ok (.getfield 28, 3) := by decide +kernel
theorem dX7_jar_8 : decode cX7_jar 8 = .ok (.invokevirtual 69, 3) := by decide +kernel
theorem dX7_jar_11 : decode cX7_jar 11 = .ok (.aload_n 0, 1) := by decide +kernel
theorem dX7_jar_12 : decode cX7_jar 12 = .ok (.aload_n 0, 1) := by decide +kernel
theorem dX7_jar_13 : decode cX7_jar 13 = .ok (.getfield 51, 3) := by decide +kernel
theorem dX7_jar_16 : decode cX7_jar 16 = .ok (.iload_n 1, 1) := by decide +kernel
theorem dX7_jar_17 : decode cX7_jar 17 = .ok (.invokevirtual 73, 3) := by decide +kernel
theorem dX7_jar_20 : decode cX7_jar 20 = .ok (.invokevirtual 77, 3) := by decide +kernel
theorem dX7_jar_23 : decode cX7_jar 23 = .ok (.ireturn, 1) := by decide +kernel
theorem dX7_pour_0 : decode cX7_pour 0 = .ok (.aload_n 0, 1) := by decide +kernel
theorem dX7_pour_1 : decode cX7_pour 1 = .ok (.getfield 42, 3) := by decide +kernel
theorem dX7_pour_4 : decode cX7_pour 4 = .ok (.aload_n 0, 1) := by decide +kernel
theorem dX7_pour_5 : decode cX7_pour 5 = .ok (.getfield 28, 3) := by decide +kernel
theorem dX7_pour_8 : decode cX7_pour 8 = .ok (.invokevirtual 69, 3) := by decide +kernel
theorem dX7_pour_11 : decode cX7_pour 11 = .ok (.aload_n 0, 1) := by decide +kernel
theorem dX7_pour_12 : decode cX7_pour 12 = .ok (.aload_n 0, 1) := by decide +kernel
theorem dX7_pour_13 : decode cX7_pour 13 = .ok (.getfield 51, 3) := by decide +kernel
theorem dX7_pour_16 : decode cX7_pour 16 = .ok (.iload_n 1, 1) := by decide +kernel
theorem dX7_pour_17 : decode cX7_pour 17 = .ok (.iload_n 2, 1) := by decide +kernel
theorem dX7_pour_18 : decode cX7_pour 18 = .ok (.invokevirtual 80, 3) := by decide +kernel
theorem dX7_pour_21 : decode cX7_pour 21 = .ok (.invokevirtual 77, 3) := by decide +kernel
theorem dX7_pour_24 : decode cX7_pour 24 = .ok (.ireturn, 1) := by decide +kernel
theorem dX7_more_0 : decode cX7_more 0 = .ok (.aload_n 0, 1) := by decide +kernel
theorem dX7_more_1 : decode cX7_more 1 = .ok (.getfield 42, 3) := by decide +kernel
theorem dX7_more_4 : decode cX7_more 4 = .ok (.aload_n 0, 1) := by decide +kernel
theorem dX7_more_5 : decode cX7_more 5 = .ok (.getfield 28, 3) := by decide +kernel
theorem dX7_more_8 : decode cX7_more 8 = .ok (.invokevirtual 69, 3) := by decide +kernel
theorem dX7_more_11 : decode cX7_more 11 = .ok (.aload_n 0, 1) := by decide +kernel
theorem dX7_more_12 : decode cX7_more 12 = .ok (.aload_n 0, 1) := by decide +kernel
theorem dX7_more_13 : decode cX7_more 13 = .ok (.getfield 51, 3) := by decide +kernel
theorem dX7_more_16 : decode cX7_more 16 = .ok (.iload_n 1, 1) := by decide +kernel
theorem dX7_more_17 : decode cX7_more 17 = .ok (.invokevirtual 84, 3) := by decide +kernel
theorem dX7_more_20 : decode cX7_more 20 = .ok (.invokevirtual 77, 3) := by decide +kernel
theorem dX7_more_23 : decode cX7_more 23 = .ok (.ireturn, 1) := by decide +kernel
theorem dX7_throwAway_0 : decode cX7_throwAway 0 = .ok (.aload_n 0, 1) := by decide +kernel
theorem dX7_throwAway_1 : decode cX7_throwAway 1 = .ok (.getfield 42, 3) := by decide +kernel
theorem dX7_throwAway_4 : decode cX7_throwAway 4 = .ok (.aload_n 0, 1) := by decide +kernel
theorem dX7_throwAway_5 : decode cX7_throwAway 5 = .ok (.getfield 28, 3) := by decide +kernel
theorem dX7_throwAway_8 : decode cX7_throwAway 8 = .ok (.invokevirtual 69, 3) := by decide +kernel
theorem dX7_throwAway_11 : decode cX7_throwAway 11 = .ok (.aload_n 0, 1) := by decide +kernel
theorem dX7_throwAway_12 : decode cX7_throwAway 12 = .ok (.aload_n 0, 1) := by decide +kernel
theorem dX7_throwAway_13 : decode cX7_throwAway 13 = .ok (.getfield 51, 3) := by decide +kernel
theorem dX7_throwAway_16 : decode cX7_throwAway 16 = .ok (.iload_n 1, 1) := by decide +kernel
theorem dX7_throwAway_17 : decode cX7_throwAway 17 = .ok (.invokevirtual 87, 3) := by decide +kernel
theorem dX7_throwAway_20 : decode cX7_throwAway 20 = .ok (.invokevirtual 77, 3) := by decide +kernel
theorem dX7_throwAway_23 : decode cX7_throwAway 23 = .ok (.ireturn, 1) := by decide +kernel
theorem dX7_rule_0 : decode cX7_rule 0 = .ok (.aload_n 0, 1) := by decide +kernel
theorem dX7_rule_1 : decode cX7_rule 1 = .ok (.getfield 42, 3) := by decide +kernel
theorem dX7_rule_4 : decode cX7_rule 4 = .ok (.aload_n 0, 1) := by decide +kernel
theorem dX7_rule_5 : decode cX7_rule 5 = .ok (.getfield 28, 3) := by decide +kernel
theorem dX7_rule_8 : decode cX7_rule 8 = .ok (.invokevirtual 69, 3) := by decide +kernel
theorem dX7_rule_11 : decode cX7_rule 11 = .ok (.aload_n 0, 1) := by decide +kernel
theorem dX7_rule_12 : decode cX7_rule 12 = .ok (.getfield 51, 3) := by decide +kernel
theorem dX7_rule_15 : decode cX7_rule 15 = .ok (.iload_n 1, 1) := by decide +kernel
theorem dX7_rule_16 : decode cX7_rule 16 = .ok (.invokevirtual 90, 3) := by decide +kernel
theorem dX7_rule_19 : decode cX7_rule 19 = .ok (.istore_n 2, 1) := by decide +kernel
theorem dX7_rule_20 : decode cX7_rule 20 = .ok (.aload_n 0, 1) := by decide +kernel
theorem dX7_rule_21 : decode cX7_rule 21 = .ok (.iload_n 2, 1) := by decide +kernel
theorem dX7_rule_22 : decode cX7_rule 22 = .ok (.ifCond .ge 7, 3) := by decide +kernel
theorem dX7_rule_25 : decode cX7_rule 25 = .ok (.iload_n 2, 1) := by decide +kernel
theorem dX7_rule_26 : decode cX7_rule 26 = .ok (.goto 7, 3) := by decide +kernel
theorem dX7_rule_29 : decode cX7_rule 29 = .ok (.aload_n 0, 1) := by decide +kernel
theorem dX7_rule_30 : decode cX7_rule 30 = .ok (.invokevirtual 93, 3) := by decide +kernel
theorem dX7_rule_33 : decode cX7_rule 33 = .ok (.invokevirtual 77, 3) := by decide +kernel
theorem dX7_rule_36 : decode cX7_rule 36 = .ok (.ireturn, 1) := by decide +kernel
theorem dX7_drop_0 : decode cX7_drop 0 = .ok (.aload_n 0, 1) := by decide +kernel
theorem dX7_drop_1 : decode cX7_drop 1 = .ok (.getfield 42, 3) := by decide +kernel
theorem dX7_drop_4 : decode cX7_drop 4 = .ok (.aload_n 0, 1) := by decide +kernel
theorem dX7_drop_5 : decode cX7_drop 5 = .ok (.getfield 28, 3) := by decide +kernel
theorem dX7_drop_8 : decode cX7_drop 8 = .ok (.invokevirtual 69, 3) := by decide +kernel
theorem dX7_drop_11 : decode cX7_drop 11 = .ok (.aload_n 0, 1) := by decide +kernel
theorem dX7_drop_12 : decode cX7_drop 12 = .ok (.getfield 51, 3) := by decide +kernel
theorem dX7_drop_15 : decode cX7_drop 15 = .ok (.iload_n 1, 1) := by decide +kernel
theorem dX7_drop_16 : decode cX7_drop 16 = .ok (.invokevirtual 97, 3) := by decide +kernel
theorem dX7_drop_19 : decode cX7_drop 19 = .ok (.istore_n 2, 1) := by decide +kernel
theorem dX7_drop_20 : decode cX7_drop 20 = .ok (.aload_n 0, 1) := by decide +kernel
theorem dX7_drop_21 : decode cX7_drop 21 = .ok (.iload_n 2, 1) := by decide +kernel
theorem dX7_drop_22 : decode cX7_drop 22 = .ok (.ifCond .ge 7, 3) := by decide +kernel
theorem dX7_drop_25 : decode cX7_drop 25 = .ok (.iload_n 2, 1) := by decide +kernel
theorem dX7_drop_26 : decode cX7_drop 26 = .ok (.goto 7, 3) := by decide +kernel
theorem dX7_drop_29 : decode cX7_drop 29 = .ok (.aload_n 0, 1) := by decide +kernel
theorem dX7_drop_30 : decode cX7_drop 30 = .ok (.invokevirtual 93, 3) := by decide +kernel
theorem dX7_drop_33 : decode cX7_drop 33 = .ok (.invokevirtual 77, 3) := by decide +kernel
theorem dX7_drop_36 : decode cX7_drop 36 = .ok (.ireturn, 1) := by decide +kernel
theorem dX7_price_0 : decode cX7_price 0 = .ok (.aload_n 0, 1) := by decide +kernel
theorem dX7_price_1 : decode cX7_price 1 = .ok (.getfield 42, 3) := by decide +kernel
theorem dX7_price_4 : decode cX7_price 4 = .ok (.aload_n 0, 1) := by decide +kernel
theorem dX7_price_5 : decode cX7_price 5 = .ok (.getfield 28, 3) := by decide +kernel
theorem dX7_price_8 : decode cX7_price 8 = .ok (.invokevirtual 69, 3) := by decide +kernel
theorem dX7_price_11 : decode cX7_price 11 = .ok (.aload_n 0, 1) := by decide +kernel
theorem dX7_price_12 : decode cX7_price 12 = .ok (.aload_n 0, 1) := by decide +kernel
theorem dX7_price_13 : decode cX7_price 13 = .ok (.getfield 51, 3) := by decide +kernel
theorem dX7_price_16 : decode cX7_price 16 = .ok (.iload_n 1, 1) := by decide +kernel
theorem dX7_price_17 : decode cX7_price 17 = .ok (.iload_n 2, 1) := by decide +kernel
theorem dX7_price_18 : decode cX7_price 18 = .ok (.invokevirtual 100, 3) := by decide +kernel
theorem dX7_price_21 : decode cX7_price 21 = .ok (.invokevirtual 77, 3) := by decide +kernel
theorem dX7_price_24 : decode cX7_price 24 = .ok (.ireturn, 1) := by decide +kernel
theorem dX7_want_0 : decode cX7_want 0 = .ok (.aload_n 0, 1) := by decide +kernel
theorem dX7_want_1 : decode cX7_want 1 = .ok (.getfield 42, 3) := by decide +kernel
theorem dX7_want_4 : decode cX7_want 4 = .ok (.aload_n 0, 1) := by decide +kernel
theorem dX7_want_5 : decode cX7_want 5 = .ok (.getfield 28, 3) := by decide +kernel
theorem dX7_want_8 : decode cX7_want 8 = .ok (.invokevirtual 69, 3) := by decide +kernel
theorem dX7_want_11 : decode cX7_want 11 = .ok (.aload_n 0, 1) := by decide +kernel
theorem dX7_want_12 : decode cX7_want 12 = .ok (.aload_n 0, 1) := by decide +kernel
theorem dX7_want_13 : decode cX7_want 13 = .ok (.getfield 51, 3) := by decide +kernel
theorem dX7_want_16 : decode cX7_want 16 = .ok (.iload_n 1, 1) := by decide +kernel
theorem dX7_want_17 : decode cX7_want 17 = .ok (.invokevirtual 103, 3) := by decide +kernel
theorem dX7_want_20 : decode cX7_want 20 = .ok (.invokevirtual 77, 3) := by decide +kernel
theorem dX7_want_23 : decode cX7_want 23 = .ok (.ireturn, 1) := by decide +kernel
theorem dX7_serve_0 : decode cX7_serve 0 = .ok (.aload_n 0, 1) := by decide +kernel
theorem dX7_serve_1 : decode cX7_serve 1 = .ok (.getfield 42, 3) := by decide +kernel
theorem dX7_serve_4 : decode cX7_serve 4 = .ok (.aload_n 0, 1) := by decide +kernel
theorem dX7_serve_5 : decode cX7_serve 5 = .ok (.getfield 28, 3) := by decide +kernel
theorem dX7_serve_8 : decode cX7_serve 8 = .ok (.invokevirtual 69, 3) := by decide +kernel
theorem dX7_serve_11 : decode cX7_serve 11 = .ok (.aload_n 0, 1) := by decide +kernel
theorem dX7_serve_12 : decode cX7_serve 12 = .ok (.aload_n 0, 1) := by decide +kernel
theorem dX7_serve_13 : decode cX7_serve 13 = .ok (.getfield 51, 3) := by decide +kernel
theorem dX7_serve_16 : decode cX7_serve 16 = .ok (.invokevirtual 106, 3) := by decide +kernel
theorem dX7_serve_19 : decode cX7_serve 19 = .ok (.invokevirtual 77, 3) := by decide +kernel
theorem dX7_serve_22 : decode cX7_serve 22 = .ok (.ireturn, 1) := by decide +kernel
theorem dX7_undo_0 : decode cX7_undo 0 = .ok (.aload_n 0, 1) := by decide +kernel
theorem dX7_undo_1 : decode cX7_undo 1 = .ok (.getfield 42, 3) := by decide +kernel
theorem dX7_undo_4 : decode cX7_undo 4 = .ok (.aload_n 0, 1) := by decide +kernel
theorem dX7_undo_5 : decode cX7_undo 5 = .ok (.getfield 28, 3) := by decide +kernel
theorem dX7_undo_8 : decode cX7_undo 8 = .ok (.invokevirtual 126, 3) := by decide +kernel
theorem dX7_undo_11 : decode cX7_undo 11 = .ok (.ireturn, 1) := by decide +kernel
theorem dX7_ended_0 : decode cX7_ended 0 = .ok (.iload_n 1, 1) := by decide +kernel
theorem dX7_ended_1 : decode cX7_ended 1 = .ok (.ifCond .lt 10, 3) := by decide +kernel
theorem dX7_ended_4 : decode cX7_ended 4 = .ok (.aload_n 0, 1) := by decide +kernel
theorem dX7_ended_5 : decode cX7_ended 5 = .ok (.getfield 42, 3) := by decide +kernel
theorem dX7_ended_8 : decode cX7_ended 8 = .ok (.invokevirtual 137, 3) := by decide +kernel
theorem dX7_ended_11 : decode cX7_ended 11 = .ok (.iload_n 1, 1) := by decide +kernel
theorem dX7_ended_12 : decode cX7_ended 12 = .ok (.ireturn, 1) := by decide +kernel
theorem dX7_jarOf_0 : decode cX7_jarOf 0 = .ok (.aload_n 0, 1) := by decide +kernel
theorem dX7_jarOf_1 : decode cX7_jarOf 1 = .ok (.getfield 28, 3) := by decide +kernel
theorem dX7_jarOf_4 : decode cX7_jarOf 4 = .ok (.iload_n 1, 1) := by decide +kernel
theorem dX7_jarOf_5 : decode cX7_jarOf 5 = .ok (.invokevirtual 140, 3) := by decide +kernel
theorem dX7_jarOf_8 : decode cX7_jarOf 8 = .ok (.istore_n 3, 1) := by decide +kernel
theorem dX7_jarOf_9 : decode cX7_jarOf 9 = .ok (.iload_n 3, 1) := by decide +kernel
theorem dX7_jarOf_10 : decode cX7_jarOf 10 = .ok (.ifCond .ge 5, 3) := by decide +kernel
theorem dX7_jarOf_13 : decode cX7_jarOf 13 = .ok (.iconst (-1), 1) := by decide +kernel
theorem dX7_jarOf_14 : decode cX7_jarOf 14 = .ok (.ireturn, 1) := by decide +kernel
theorem dX7_jarOf_15 : decode cX7_jarOf 15 = .ok (.aload_n 0, 1) := by decide +kernel
theorem dX7_jarOf_16 : decode cX7_jarOf 16 = .ok (.getfield 28, 3) := by decide +kernel
theorem dX7_jarOf_19 : decode cX7_jarOf 19 = .ok (.getfield 143, 3) := by decide +kernel
theorem dX7_jarOf_22 : decode cX7_jarOf 22 = .ok (.iload_n 3, 1) := by decide +kernel
theorem dX7_jarOf_23 : decode cX7_jarOf 23 = .ok (.iaload, 1) := by decide +kernel
theorem dX7_jarOf_24 : decode cX7_jarOf 24 = .ok (.istore 4, 2) := by decide +kernel
theorem dX7_jarOf_26 : decode cX7_jarOf 26 = .ok (.iload_n 2, 1) := by decide +kernel
theorem dX7_jarOf_27 : decode cX7_jarOf 27 = .ok (.tableswitch 109 0 6 #[41, 44, 50, 63, 70, 85, 92], 41) := by decide +kernel
theorem dX7_jarOf_68 : decode cX7_jarOf 68 = .ok (.iload 4, 2) := by decide +kernel
theorem dX7_jarOf_70 : decode cX7_jarOf 70 = .ok (.ireturn, 1) := by decide +kernel
theorem dX7_jarOf_71 : decode cX7_jarOf 71 = .ok (.iload 4, 2) := by decide +kernel
theorem dX7_jarOf_73 : decode cX7_jarOf 73 = .ok (.invokestatic 146, 3) := by decide +kernel
theorem dX7_jarOf_76 : decode cX7_jarOf 76 = .ok (.ireturn, 1) := by decide +kernel
theorem dX7_jarOf_77 : decode cX7_jarOf 77 = .ok (.iload 4, 2) := by decide +kernel
theorem dX7_jarOf_79 : decode cX7_jarOf 79 = .ok (.aload_n 0, 1) := by decide +kernel
theorem dX7_jarOf_80 : decode cX7_jarOf 80 = .ok (.getfield 28, 3) := by decide +kernel
theorem dX7_jarOf_83 : decode cX7_jarOf 83 = .ok (.getfield 149, 3) := by decide +kernel
theorem dX7_jarOf_86 : decode cX7_jarOf 86 = .ok (.invokestatic 152, 3) := by decide +kernel
theorem dX7_jarOf_89 : decode cX7_jarOf 89 = .ok (.ireturn, 1) := by decide +kernel
theorem dX7_jarOf_90 : decode cX7_jarOf 90 = .ok (.aload_n 0, 1) := by decide +kernel
theorem dX7_jarOf_91 : decode cX7_jarOf 91 = .ok (.iload 4, 2) := by decide +kernel
theorem dX7_jarOf_93 : decode cX7_jarOf 93 = .ok (.invokevirtual 156, 3) := by decide +kernel
theorem dX7_jarOf_96 : decode cX7_jarOf 96 = .ok (.ireturn, 1) := by decide +kernel
theorem dX7_jarOf_97 : decode cX7_jarOf 97 = .ok (.aload_n 0, 1) := by decide +kernel
theorem dX7_jarOf_98 : decode cX7_jarOf 98 = .ok (.iload 4, 2) := by decide +kernel
theorem dX7_jarOf_100 : decode cX7_jarOf 100 = .ok (.invokevirtual 156, 3) := by decide +kernel
theorem dX7_jarOf_103 : decode cX7_jarOf 103 = .ok (.ifCond .ne 7, 3) := by decide +kernel
theorem dX7_jarOf_106 : decode cX7_jarOf 106 = .ok (.iconst 1, 1) := by decide +kernel
theorem dX7_jarOf_107 : decode cX7_jarOf 107 = .ok (.goto 4, 3) := by decide +kernel
theorem dX7_jarOf_110 : decode cX7_jarOf 110 = .ok (.iconst 0, 1) := by decide +kernel
theorem dX7_jarOf_111 : decode cX7_jarOf 111 = .ok (.ireturn, 1) := by decide +kernel
theorem dX7_jarOf_112 : decode cX7_jarOf 112 = .ok (.aload_n 0, 1) := by decide +kernel
theorem dX7_jarOf_113 : decode cX7_jarOf 113 = .ok (.iload 4, 2) := by decide +kernel
theorem dX7_jarOf_115 : decode cX7_jarOf 115 = .ok (.invokevirtual 159, 3) := by decide +kernel
theorem dX7_jarOf_118 : decode cX7_jarOf 118 = .ok (.ireturn, 1) := by decide +kernel
theorem dX7_jarOf_119 : decode cX7_jarOf 119 = .ok (.aload_n 0, 1) := by decide +kernel
theorem dX7_jarOf_120 : decode cX7_jarOf 120 = .ok (.iload 4, 2) := by decide +kernel
theorem dX7_jarOf_122 : decode cX7_jarOf 122 = .ok (.invokevirtual 159, 3) := by decide +kernel
theorem dX7_jarOf_125 : decode cX7_jarOf 125 = .ok (.aload_n 0, 1) := by decide +kernel
theorem dX7_jarOf_126 : decode cX7_jarOf 126 = .ok (.getfield 28, 3) := by decide +kernel
theorem dX7_jarOf_129 : decode cX7_jarOf 129 = .ok (.getfield 149, 3) := by decide +kernel
theorem dX7_jarOf_132 : decode cX7_jarOf 132 = .ok (.invokestatic 152, 3) := by decide +kernel
theorem dX7_jarOf_135 : decode cX7_jarOf 135 = .ok (.ireturn, 1) := by decide +kernel
theorem dX7_jarOf_136 : decode cX7_jarOf 136 = .ok (.bipush (-2), 2) := by decide +kernel
theorem dX7_jarOf_138 : decode cX7_jarOf 138 = .ok (.ireturn, 1) := by decide +kernel
theorem dX7_ranked_0 : decode cX7_ranked 0 = .ok (.iload_n 1, 1) := by decide +kernel
theorem dX7_ranked_1 : decode cX7_ranked 1 = .ok (.ifCond .ge 6, 3) := by decide +kernel
theorem dX7_ranked_4 : decode cX7_ranked 4 = .ok (.bipush (-2), 2) := by decide +kernel
theorem dX7_ranked_6 : decode cX7_ranked 6 = .ok (.ireturn, 1) := by decide +kernel
theorem dX7_ranked_7 : decode cX7_ranked 7 = .ok (.iload_n 1, 1) := by decide +kernel
theorem dX7_ranked_8 : decode cX7_ranked 8 = .ok (.aload_n 0, 1) := by decide +kernel
theorem dX7_ranked_9 : decode cX7_ranked 9 = .ok (.getfield 28, 3) := by decide +kernel
theorem dX7_ranked_12 : decode cX7_ranked 12 = .ok (.getfield 133, 3) := by decide +kernel
theorem dX7_ranked_15 : decode cX7_ranked 15 = .ok (.if_icmp .ge 15, 3) := by decide +kernel
theorem dX7_ranked_18 : decode cX7_ranked 18 = .ok (.aload_n 0, 1) := by decide +kernel
theorem dX7_ranked_19 : decode cX7_ranked 19 = .ok (.getfield 28, 3) := by decide +kernel
theorem dX7_ranked_22 : decode cX7_ranked 22 = .ok (.getfield 162, 3) := by decide +kernel
theorem dX7_ranked_25 : decode cX7_ranked 25 = .ok (.iload_n 1, 1) := by decide +kernel
theorem dX7_ranked_26 : decode cX7_ranked 26 = .ok (.iaload, 1) := by decide +kernel
theorem dX7_ranked_27 : decode cX7_ranked 27 = .ok (.goto 5, 3) := by decide +kernel
theorem dX7_ranked_30 : decode cX7_ranked 30 = .ok (.bipush (-5), 2) := by decide +kernel
theorem dX7_ranked_32 : decode cX7_ranked 32 = .ok (.ireturn, 1) := by decide +kernel
theorem dX7_ruleOf_0 : decode cX7_ruleOf 0 = .ok (.iload_n 1, 1) := by decide +kernel
theorem dX7_ruleOf_1 : decode cX7_ruleOf 1 = .ok (.ifCond .lt 26, 3) := by decide +kernel
theorem dX7_ruleOf_4 : decode cX7_ruleOf 4 = .ok (.iload_n 1, 1) := by decide +kernel
theorem dX7_ruleOf_5 : decode cX7_ruleOf 5 = .ok (.aload_n 0, 1) := by decide +kernel
theorem dX7_ruleOf_6 : decode cX7_ruleOf 6 = .ok (.getfield 28, 3) := by decide +kernel
theorem dX7_ruleOf_9 : decode cX7_ruleOf 9 = .ok (.getfield 165, 3) := by decide +kernel
theorem dX7_ruleOf_12 : decode cX7_ruleOf 12 = .ok (.if_icmp .ge 15, 3) := by decide +kernel
theorem dX7_ruleOf_15 : decode cX7_ruleOf 15 = .ok (.aload_n 0, 1) := by decide +kernel
theorem dX7_ruleOf_16 : decode cX7_ruleOf 16 = .ok (.getfield 28, 3) := by decide +kernel
theorem dX7_ruleOf_19 : decode cX7_ruleOf 19 = .ok (.getfield 168, 3) := by decide +kernel
theorem dX7_ruleOf_22 : decode cX7_ruleOf 22 = .ok (.iload_n 1, 1) := by decide +kernel
theorem dX7_ruleOf_23 : decode cX7_ruleOf 23 = .ok (.iaload, 1) := by decide +kernel
theorem dX7_ruleOf_24 : decode cX7_ruleOf 24 = .ok (.goto 4, 3) := by decide +kernel
theorem dX7_ruleOf_27 : decode cX7_ruleOf 27 = .ok (.iconst (-1), 1) := by decide +kernel
theorem dX7_ruleOf_28 : decode cX7_ruleOf 28 = .ok (.ireturn, 1) := by decide +kernel
theorem dX7_mixOf_0 : decode cX7_mixOf 0 = .ok (.iload_n 1, 1) := by decide +kernel
theorem dX7_mixOf_1 : decode cX7_mixOf 1 = .ok (.invokestatic 171, 3) := by decide +kernel
theorem dX7_mixOf_4 : decode cX7_mixOf 4 = .ok (.ifCond .ne 6, 3) := by decide +kernel
theorem dX7_mixOf_7 : decode cX7_mixOf 7 = .ok (.bipush (-2), 2) := by decide +kernel
theorem dX7_mixOf_9 : decode cX7_mixOf 9 = .ok (.ireturn, 1) := by decide +kernel
theorem dX7_mixOf_10 : decode cX7_mixOf 10 = .ok (.iload_n 2, 1) := by decide +kernel
theorem dX7_mixOf_11 : decode cX7_mixOf 11 = .ok (.tableswitch 103 0 6 #[41, 46, 58, 64, 78, 84, 93], 41) := by decide +kernel
theorem dX7_mixOf_52 : decode cX7_mixOf 52 = .ok (.iload_n 1, 1) := by decide +kernel
theorem dX7_mixOf_53 : decode cX7_mixOf 53 = .ok (.invokestatic 146, 3) := by decide +kernel
theorem dX7_mixOf_56 : decode cX7_mixOf 56 = .ok (.ireturn, 1) := by decide +kernel
theorem dX7_mixOf_57 : decode cX7_mixOf 57 = .ok (.iload_n 1, 1) := by decide +kernel
theorem dX7_mixOf_58 : decode cX7_mixOf 58 = .ok (.aload_n 0, 1) := by decide +kernel
theorem dX7_mixOf_59 : decode cX7_mixOf 59 = .ok (.getfield 28, 3) := by decide +kernel
theorem dX7_mixOf_62 : decode cX7_mixOf 62 = .ok (.getfield 149, 3) := by decide +kernel
theorem dX7_mixOf_65 : decode cX7_mixOf 65 = .ok (.invokestatic 152, 3) := by decide +kernel
theorem dX7_mixOf_68 : decode cX7_mixOf 68 = .ok (.ireturn, 1) := by decide +kernel
theorem dX7_mixOf_69 : decode cX7_mixOf 69 = .ok (.aload_n 0, 1) := by decide +kernel
theorem dX7_mixOf_70 : decode cX7_mixOf 70 = .ok (.iload_n 1, 1) := by decide +kernel
theorem dX7_mixOf_71 : decode cX7_mixOf 71 = .ok (.invokevirtual 156, 3) := by decide +kernel
theorem dX7_mixOf_74 : decode cX7_mixOf 74 = .ok (.ireturn, 1) := by decide +kernel
theorem dX7_mixOf_75 : decode cX7_mixOf 75 = .ok (.aload_n 0, 1) := by decide +kernel
theorem dX7_mixOf_76 : decode cX7_mixOf 76 = .ok (.iload_n 1, 1) := by decide +kernel
theorem dX7_mixOf_77 : decode cX7_mixOf 77 = .ok (.invokevirtual 156, 3) := by decide +kernel
theorem dX7_mixOf_80 : decode cX7_mixOf 80 = .ok (.ifCond .ne 7, 3) := by decide +kernel
theorem dX7_mixOf_83 : decode cX7_mixOf 83 = .ok (.iconst 1, 1) := by decide +kernel
theorem dX7_mixOf_84 : decode cX7_mixOf 84 = .ok (.goto 4, 3) := by decide +kernel
theorem dX7_mixOf_87 : decode cX7_mixOf 87 = .ok (.iconst 0, 1) := by decide +kernel
theorem dX7_mixOf_88 : decode cX7_mixOf 88 = .ok (.ireturn, 1) := by decide +kernel
theorem dX7_mixOf_89 : decode cX7_mixOf 89 = .ok (.aload_n 0, 1) := by decide +kernel
theorem dX7_mixOf_90 : decode cX7_mixOf 90 = .ok (.iload_n 1, 1) := by decide +kernel
theorem dX7_mixOf_91 : decode cX7_mixOf 91 = .ok (.invokevirtual 159, 3) := by decide +kernel
theorem dX7_mixOf_94 : decode cX7_mixOf 94 = .ok (.ireturn, 1) := by decide +kernel
theorem dX7_mixOf_95 : decode cX7_mixOf 95 = .ok (.aload_n 0, 1) := by decide +kernel
theorem dX7_mixOf_96 : decode cX7_mixOf 96 = .ok (.getfield 10, 3) := by decide +kernel
theorem dX7_mixOf_99 : decode cX7_mixOf 99 = .ok (.iload_n 1, 1) := by decide +kernel
theorem dX7_mixOf_100 : decode cX7_mixOf 100 = .ok (.invokevirtual 175, 3) := by decide +kernel
theorem dX7_mixOf_103 : decode cX7_mixOf 103 = .ok (.ireturn, 1) := by decide +kernel
theorem dX7_mixOf_104 : decode cX7_mixOf 104 = .ok (.aload_n 0, 1) := by decide +kernel
theorem dX7_mixOf_105 : decode cX7_mixOf 105 = .ok (.aload_n 0, 1) := by decide +kernel
theorem dX7_mixOf_106 : decode cX7_mixOf 106 = .ok (.iload_n 1, 1) := by decide +kernel
theorem dX7_mixOf_107 : decode cX7_mixOf 107 = .ok (.invokevirtual 156, 3) := by decide +kernel
theorem dX7_mixOf_110 : decode cX7_mixOf 110 = .ok (.invokevirtual 178, 3) := by decide +kernel
theorem dX7_mixOf_113 : decode cX7_mixOf 113 = .ok (.ireturn, 1) := by decide +kernel
theorem dX7_mixOf_114 : decode cX7_mixOf 114 = .ok (.bipush (-2), 2) := by decide +kernel
theorem dX7_mixOf_116 : decode cX7_mixOf 116 = .ok (.ireturn, 1) := by decide +kernel
theorem dX7_together_0 : decode cX7_together 0 = .ok (.iload_n 1, 1) := by decide +kernel
theorem dX7_together_1 : decode cX7_together 1 = .ok (.invokestatic 171, 3) := by decide +kernel
theorem dX7_together_4 : decode cX7_together 4 = .ok (.ifCond .eq 22, 3) := by decide +kernel
theorem dX7_together_7 : decode cX7_together 7 = .ok (.iload_n 2, 1) := by decide +kernel
theorem dX7_together_8 : decode cX7_together 8 = .ok (.invokestatic 171, 3) := by decide +kernel
theorem dX7_together_11 : decode cX7_together 11 = .ok (.ifCond .eq 15, 3) := by decide +kernel
theorem dX7_together_14 : decode cX7_together 14 = .ok (.aload_n 0, 1) := by decide +kernel
theorem dX7_together_15 : decode cX7_together 15 = .ok (.getfield 10, 3) := by decide +kernel
theorem dX7_together_18 : decode cX7_together 18 = .ok (.iload_n 1, 1) := by decide +kernel
theorem dX7_together_19 : decode cX7_together 19 = .ok (.iload_n 2, 1) := by decide +kernel
theorem dX7_together_20 : decode cX7_together 20 = .ok (.invokevirtual 181, 3) := by decide +kernel
theorem dX7_together_23 : decode cX7_together 23 = .ok (.goto 5, 3) := by decide +kernel
theorem dX7_together_26 : decode cX7_together 26 = .ok (.bipush (-2), 2) := by decide +kernel
theorem dX7_together_28 : decode cX7_together 28 = .ok (.ireturn, 1) := by decide +kernel
theorem dX7_alike_0 : decode cX7_alike 0 = .ok (.iload_n 1, 1) := by decide +kernel
theorem dX7_alike_1 : decode cX7_alike 1 = .ok (.invokestatic 171, 3) := by decide +kernel
theorem dX7_alike_4 : decode cX7_alike 4 = .ok (.ifCond .eq 10, 3) := by decide +kernel
theorem dX7_alike_7 : decode cX7_alike 7 = .ok (.iload_n 2, 1) := by decide +kernel
theorem dX7_alike_8 : decode cX7_alike 8 = .ok (.invokestatic 171, 3) := by decide +kernel
theorem dX7_alike_11 : decode cX7_alike 11 = .ok (.ifCond .ne 6, 3) := by decide +kernel
theorem dX7_alike_14 : decode cX7_alike 14 = .ok (.bipush (-2), 2) := by decide +kernel
theorem dX7_alike_16 : decode cX7_alike 16 = .ok (.ireturn, 1) := by decide +kernel
theorem dX7_alike_17 : decode cX7_alike 17 = .ok (.iload_n 3, 1) := by decide +kernel
theorem dX7_alike_18 : decode cX7_alike 18 = .ok (.ifCond .ne 22, 3) := by decide +kernel
theorem dX7_alike_21 : decode cX7_alike 21 = .ok (.aload_n 0, 1) := by decide +kernel
theorem dX7_alike_22 : decode cX7_alike 22 = .ok (.iload_n 1, 1) := by decide +kernel
theorem dX7_alike_23 : decode cX7_alike 23 = .ok (.invokevirtual 156, 3) := by decide +kernel
theorem dX7_alike_26 : decode cX7_alike 26 = .ok (.aload_n 0, 1) := by decide +kernel
theorem dX7_alike_27 : decode cX7_alike 27 = .ok (.iload_n 2, 1) := by decide +kernel
theorem dX7_alike_28 : decode cX7_alike 28 = .ok (.invokevirtual 156, 3) := by decide +kernel
theorem dX7_alike_31 : decode cX7_alike 31 = .ok (.if_icmp .ne 7, 3) := by decide +kernel
theorem dX7_alike_34 : decode cX7_alike 34 = .ok (.iconst 1, 1) := by decide +kernel
theorem dX7_alike_35 : decode cX7_alike 35 = .ok (.goto 4, 3) := by decide +kernel
theorem dX7_alike_38 : decode cX7_alike 38 = .ok (.iconst 0, 1) := by decide +kernel
theorem dX7_alike_39 : decode cX7_alike 39 = .ok (.ireturn, 1) := by decide +kernel
theorem dX7_alike_40 : decode cX7_alike 40 = .ok (.aload_n 0, 1) := by decide +kernel
theorem dX7_alike_41 : decode cX7_alike 41 = .ok (.getfield 21, 3) := by decide +kernel
theorem dX7_alike_44 : decode cX7_alike 44 = .ok (.aload_n 0, 1) := by decide +kernel
theorem dX7_alike_45 : decode cX7_alike 45 = .ok (.getfield 28, 3) := by decide +kernel
theorem dX7_alike_48 : decode cX7_alike 48 = .ok (.invokevirtual 184, 3) := by decide +kernel
theorem dX7_alike_51 : decode cX7_alike 51 = .ok (.aload_n 0, 1) := by decide +kernel
theorem dX7_alike_52 : decode cX7_alike 52 = .ok (.getfield 21, 3) := by decide +kernel
theorem dX7_alike_55 : decode cX7_alike 55 = .ok (.iload_n 1, 1) := by decide +kernel
theorem dX7_alike_56 : decode cX7_alike 56 = .ok (.iload_n 2, 1) := by decide +kernel
theorem dX7_alike_57 : decode cX7_alike 57 = .ok (.invokevirtual 187, 3) := by decide +kernel
theorem dX7_alike_60 : decode cX7_alike 60 = .ok (.ifCond .eq 7, 3) := by decide +kernel
theorem dX7_alike_63 : decode cX7_alike 63 = .ok (.iconst 1, 1) := by decide +kernel
theorem dX7_alike_64 : decode cX7_alike 64 = .ok (.goto 4, 3) := by decide +kernel
theorem dX7_alike_67 : decode cX7_alike 67 = .ok (.iconst 0, 1) := by decide +kernel
theorem dX7_alike_68 : decode cX7_alike 68 = .ok (.ireturn, 1) := by decide +kernel
theorem dX7_shelf_0 : decode cX7_shelf 0 = .ok (.iload_n 1, 1) := by decide +kernel
theorem dX7_shelf_1 : decode cX7_shelf 1 = .ok (.ifCond .lt 12, 3) := by decide +kernel
theorem dX7_shelf_4 : decode cX7_shelf 4 = .ok (.iload_n 2, 1) := by decide +kernel
theorem dX7_shelf_5 : decode cX7_shelf 5 = .ok (.ifCond .lt 8, 3) := by decide +kernel
theorem dX7_shelf_8 : decode cX7_shelf 8 = .ok (.iload_n 2, 1) := by decide +kernel
theorem dX7_shelf_9 : decode cX7_shelf 9 = .ok (.iconst 3, 1) := by decide +kernel
theorem dX7_shelf_10 : decode cX7_shelf 10 = .ok (.if_icmp .le 6, 3) := by decide +kernel
theorem dX7_shelf_13 : decode cX7_shelf 13 = .ok (.bipush (-2), 2) := by decide +kernel
theorem dX7_shelf_15 : decode cX7_shelf 15 = .ok (.ireturn, 1) := by decide +kernel
theorem dX7_shelf_16 : decode cX7_shelf 16 = .ok (.aload_n 0, 1) := by decide +kernel
theorem dX7_shelf_17 : decode cX7_shelf 17 = .ok (.getfield 21, 3) := by decide +kernel
theorem dX7_shelf_20 : decode cX7_shelf 20 = .ok (.aload_n 0, 1) := by decide +kernel
theorem dX7_shelf_21 : decode cX7_shelf 21 = .ok (.getfield 28, 3) := by decide +kernel
theorem dX7_shelf_24 : decode cX7_shelf 24 = .ok (.invokevirtual 184, 3) := by decide +kernel
theorem dX7_shelf_27 : decode cX7_shelf 27 = .ok (.aload_n 0, 1) := by decide +kernel
theorem dX7_shelf_28 : decode cX7_shelf 28 = .ok (.iload_n 1, 1) := by decide +kernel
theorem dX7_shelf_29 : decode cX7_shelf 29 = .ok (.invokevirtual 191, 3) := by decide +kernel
theorem dX7_shelf_32 : decode cX7_shelf 32 = .ok (.istore_n 3, 1) := by decide +kernel
theorem dX7_shelf_33 : decode cX7_shelf 33 = .ok (.iload_n 3, 1) := by decide +kernel
theorem dX7_shelf_34 : decode cX7_shelf 34 = .ok (.ifCond .ge 6, 3) := by decide +kernel
theorem dX7_shelf_37 : decode cX7_shelf 37 = .ok (.bipush (-5), 2) := by decide +kernel
theorem dX7_shelf_39 : decode cX7_shelf 39 = .ok (.ireturn, 1) := by decide +kernel
theorem dX7_shelf_40 : decode cX7_shelf 40 = .ok (.iload_n 2, 1) := by decide +kernel
theorem dX7_shelf_41 : decode cX7_shelf 41 = .ok (.tableswitch 41 0 2 #[27, 29, 35], 27) := by decide +kernel
theorem dX7_shelf_68 : decode cX7_shelf 68 = .ok (.iload_n 3, 1) := by decide +kernel
theorem dX7_shelf_69 : decode cX7_shelf 69 = .ok (.ireturn, 1) := by decide +kernel
theorem dX7_shelf_70 : decode cX7_shelf 70 = .ok (.aload_n 0, 1) := by decide +kernel
theorem dX7_shelf_71 : decode cX7_shelf 71 = .ok (.iload_n 3, 1) := by decide +kernel
theorem dX7_shelf_72 : decode cX7_shelf 72 = .ok (.invokevirtual 178, 3) := by decide +kernel
theorem dX7_shelf_75 : decode cX7_shelf 75 = .ok (.ireturn, 1) := by decide +kernel
theorem dX7_shelf_76 : decode cX7_shelf 76 = .ok (.aload_n 0, 1) := by decide +kernel
theorem dX7_shelf_77 : decode cX7_shelf 77 = .ok (.iload_n 3, 1) := by decide +kernel
theorem dX7_shelf_78 : decode cX7_shelf 78 = .ok (.invokevirtual 194, 3) := by decide +kernel
theorem dX7_shelf_81 : decode cX7_shelf 81 = .ok (.ireturn, 1) := by decide +kernel
theorem dX7_shelf_82 : decode cX7_shelf 82 = .ok (.aload_n 0, 1) := by decide +kernel
theorem dX7_shelf_83 : decode cX7_shelf 83 = .ok (.iload_n 3, 1) := by decide +kernel
theorem dX7_shelf_84 : decode cX7_shelf 84 = .ok (.invokevirtual 197, 3) := by decide +kernel
theorem dX7_shelf_87 : decode cX7_shelf 87 = .ok (.ireturn, 1) := by decide +kernel
theorem dX7_waiting_0 : decode cX7_waiting 0 = .ok (.iload_n 1, 1) := by decide +kernel
theorem dX7_waiting_1 : decode cX7_waiting 1 = .ok (.ifCond .ge 6, 3) := by decide +kernel
theorem dX7_waiting_4 : decode cX7_waiting 4 = .ok (.bipush (-2), 2) := by decide +kernel
theorem dX7_waiting_6 : decode cX7_waiting 6 = .ok (.ireturn, 1) := by decide +kernel
theorem dX7_waiting_7 : decode cX7_waiting 7 = .ok (.iload_n 1, 1) := by decide +kernel
theorem dX7_waiting_8 : decode cX7_waiting 8 = .ok (.aload_n 0, 1) := by decide +kernel
theorem dX7_waiting_9 : decode cX7_waiting 9 = .ok (.getfield 28, 3) := by decide +kernel
theorem dX7_waiting_12 : decode cX7_waiting 12 = .ok (.getfield 200, 3) := by decide +kernel
theorem dX7_waiting_15 : decode cX7_waiting 15 = .ok (.if_icmp .ge 15, 3) := by decide +kernel
theorem dX7_waiting_18 : decode cX7_waiting 18 = .ok (.aload_n 0, 1) := by decide +kernel
theorem dX7_waiting_19 : decode cX7_waiting 19 = .ok (.getfield 28, 3) := by decide +kernel
theorem dX7_waiting_22 : decode cX7_waiting 22 = .ok (.getfield 203, 3) := by decide +kernel
theorem dX7_waiting_25 : decode cX7_waiting 25 = .ok (.iload_n 1, 1) := by decide +kernel
theorem dX7_waiting_26 : decode cX7_waiting 26 = .ok (.iaload, 1) := by decide +kernel
theorem dX7_waiting_27 : decode cX7_waiting 27 = .ok (.goto 5, 3) := by decide +kernel
theorem dX7_waiting_30 : decode cX7_waiting 30 = .ok (.bipush (-5), 2) := by decide +kernel
theorem dX7_waiting_32 : decode cX7_waiting 32 = .ok (.ireturn, 1) := by decide +kernel
theorem dX7_count_0 : decode cX7_count 0 = .ok (.iload_n 1, 1) := by decide +kernel
theorem dX7_count_1 : decode cX7_count 1 = .ok (.tableswitch 163 0 17 #[87, 95, 103, 108, 117, 129, 134, 163, 163, 163, 163, 142, 163, 163, 163, 163, 147, 155], 87) := by decide +kernel
theorem dX7_count_88 : decode cX7_count 88 = .ok (.aload_n 0, 1) := by decide +kernel
theorem dX7_count_89 : decode cX7_count 89 = .ok (.getfield 28, 3) := by decide +kernel
theorem dX7_count_92 : decode cX7_count 92 = .ok (.getfield 133, 3) := by decide +kernel
theorem dX7_count_95 : decode cX7_count 95 = .ok (.ireturn, 1) := by decide +kernel
theorem dX7_count_96 : decode cX7_count 96 = .ok (.aload_n 0, 1) := by decide +kernel
theorem dX7_count_97 : decode cX7_count 97 = .ok (.getfield 28, 3) := by decide +kernel
theorem dX7_count_100 : decode cX7_count 100 = .ok (.getfield 165, 3) := by decide +kernel
theorem dX7_count_103 : decode cX7_count 103 = .ok (.ireturn, 1) := by decide +kernel
theorem dX7_count_104 : decode cX7_count 104 = .ok (.aload_n 0, 1) := by decide +kernel
theorem dX7_count_105 : decode cX7_count 105 = .ok (.invokevirtual 93, 3) := by decide +kernel
theorem dX7_count_108 : decode cX7_count 108 = .ok (.ireturn, 1) := by decide +kernel
theorem dX7_count_109 : decode cX7_count 109 = .ok (.getstatic 206, 3) := by decide +kernel
theorem dX7_count_112 : decode cX7_count 112 = .ok (.aload_n 0, 1) := by decide +kernel
theorem dX7_count_113 : decode cX7_count 113 = .ok (.invokevirtual 93, 3) := by decide +kernel
theorem dX7_count_116 : decode cX7_count 116 = .ok (.iaload, 1) := by decide +kernel
theorem dX7_count_117 : decode cX7_count 117 = .ok (.ireturn, 1) := by decide +kernel
theorem dX7_count_118 : decode cX7_count 118 = .ok (.getstatic 206, 3) := by decide +kernel
theorem dX7_count_121 : decode cX7_count 121 = .ok (.bipush 8, 2) := by decide +kernel
theorem dX7_count_123 : decode cX7_count 123 = .ok (.aload_n 0, 1) := by decide +kernel
theorem dX7_count_124 : decode cX7_count 124 = .ok (.invokevirtual 93, 3) := by decide +kernel
theorem dX7_count_127 : decode cX7_count 127 = .ok (.isub, 1) := by decide +kernel
theorem dX7_count_128 : decode cX7_count 128 = .ok (.iaload, 1) := by decide +kernel
theorem dX7_count_129 : decode cX7_count 129 = .ok (.ireturn, 1) := by decide +kernel
theorem dX7_count_130 : decode cX7_count 130 = .ok (.aload_n 0, 1) := by decide +kernel
theorem dX7_count_131 : decode cX7_count 131 = .ok (.invokevirtual 209, 3) := by decide +kernel
theorem dX7_count_134 : decode cX7_count 134 = .ok (.ireturn, 1) := by decide +kernel
theorem dX7_count_135 : decode cX7_count 135 = .ok (.aload_n 0, 1) := by decide +kernel
theorem dX7_count_136 : decode cX7_count 136 = .ok (.getfield 28, 3) := by decide +kernel
theorem dX7_count_139 : decode cX7_count 139 = .ok (.getfield 200, 3) := by decide +kernel
theorem dX7_count_142 : decode cX7_count 142 = .ok (.ireturn, 1) := by decide +kernel
theorem dX7_count_143 : decode cX7_count 143 = .ok (.aload_n 0, 1) := by decide +kernel
theorem dX7_count_144 : decode cX7_count 144 = .ok (.invokevirtual 212, 3) := by decide +kernel
theorem dX7_count_147 : decode cX7_count 147 = .ok (.ireturn, 1) := by decide +kernel
theorem dX7_count_148 : decode cX7_count 148 = .ok (.aload_n 0, 1) := by decide +kernel
theorem dX7_count_149 : decode cX7_count 149 = .ok (.getfield 42, 3) := by decide +kernel
theorem dX7_count_152 : decode cX7_count 152 = .ok (.getfield 215, 3) := by decide +kernel
theorem dX7_count_155 : decode cX7_count 155 = .ok (.ireturn, 1) := by decide +kernel
theorem dX7_count_156 : decode cX7_count 156 = .ok (.aload_n 0, 1) := by decide +kernel
theorem dX7_count_157 : decode cX7_count 157 = .ok (.getfield 58, 3) := by decide +kernel
theorem dX7_count_160 : decode cX7_count 160 = .ok (.getfield 218, 3) := by decide +kernel
theorem dX7_count_163 : decode cX7_count 163 = .ok (.ireturn, 1) := by decide +kernel
theorem dX7_count_164 : decode cX7_count 164 = .ok (.aload_n 0, 1) := by decide +kernel
theorem dX7_count_165 : decode cX7_count 165 = .ok (.iload_n 1, 1) := by decide +kernel
theorem dX7_count_166 : decode cX7_count 166 = .ok (.invokevirtual 221, 3) := by decide +kernel
theorem dX7_count_169 : decode cX7_count 169 = .ok (.ireturn, 1) := by decide +kernel
theorem dX7_accountTold_0 : decode cX7_accountTold 0 = .ok (.iload_n 1, 1) := by decide +kernel
theorem dX7_accountTold_1 : decode cX7_accountTold 1 = .ok (.tableswitch 133 7 15 #[51, 61, 71, 81, 133, 91, 101, 111, 122], 51) := by decide +kernel
theorem dX7_accountTold_52 : decode cX7_accountTold 52 = .ok (.aload_n 0, 1) := by decide +kernel
theorem dX7_accountTold_53 : decode cX7_accountTold 53 = .ok (.getfield 28, 3) := by decide +kernel
theorem dX7_accountTold_56 : decode cX7_accountTold 56 = .ok (.getfield 224, 3) := by decide +kernel
theorem dX7_accountTold_59 : decode cX7_accountTold 59 = .ok (.iconst 0, 1) := by decide +kernel
theorem dX7_accountTold_60 : decode cX7_accountTold 60 = .ok (.iaload, 1) := by decide +kernel
theorem dX7_accountTold_61 : decode cX7_accountTold 61 = .ok (.ireturn, 1) := by decide +kernel
theorem dX7_accountTold_62 : decode cX7_accountTold 62 = .ok (.aload_n 0, 1) := by decide +kernel
theorem dX7_accountTold_63 : decode cX7_accountTold 63 = .ok (.getfield 28, 3) := by decide +kernel
theorem dX7_accountTold_66 : decode cX7_accountTold 66 = .ok (.getfield 224, 3) := by decide +kernel
theorem dX7_accountTold_69 : decode cX7_accountTold 69 = .ok (.iconst 1, 1) := by decide +kernel
theorem dX7_accountTold_70 : decode cX7_accountTold 70 = .ok (.iaload, 1) := by decide +kernel
theorem dX7_accountTold_71 : decode cX7_accountTold 71 = .ok (.ireturn, 1) := by decide +kernel
theorem dX7_accountTold_72 : decode cX7_accountTold 72 = .ok (.aload_n 0, 1) := by decide +kernel
theorem dX7_accountTold_73 : decode cX7_accountTold 73 = .ok (.getfield 28, 3) := by decide +kernel
theorem dX7_accountTold_76 : decode cX7_accountTold 76 = .ok (.getfield 224, 3) := by decide +kernel
theorem dX7_accountTold_79 : decode cX7_accountTold 79 = .ok (.iconst 2, 1) := by decide +kernel
theorem dX7_accountTold_80 : decode cX7_accountTold 80 = .ok (.iaload, 1) := by decide +kernel
theorem dX7_accountTold_81 : decode cX7_accountTold 81 = .ok (.ireturn, 1) := by decide +kernel
theorem dX7_accountTold_82 : decode cX7_accountTold 82 = .ok (.aload_n 0, 1) := by decide +kernel
theorem dX7_accountTold_83 : decode cX7_accountTold 83 = .ok (.getfield 28, 3) := by decide +kernel
theorem dX7_accountTold_86 : decode cX7_accountTold 86 = .ok (.getfield 224, 3) := by decide +kernel
theorem dX7_accountTold_89 : decode cX7_accountTold 89 = .ok (.iconst 3, 1) := by decide +kernel
theorem dX7_accountTold_90 : decode cX7_accountTold 90 = .ok (.iaload, 1) := by decide +kernel
theorem dX7_accountTold_91 : decode cX7_accountTold 91 = .ok (.ireturn, 1) := by decide +kernel
theorem dX7_accountTold_92 : decode cX7_accountTold 92 = .ok (.aload_n 0, 1) := by decide +kernel
theorem dX7_accountTold_93 : decode cX7_accountTold 93 = .ok (.getfield 28, 3) := by decide +kernel
theorem dX7_accountTold_96 : decode cX7_accountTold 96 = .ok (.getfield 224, 3) := by decide +kernel
theorem dX7_accountTold_99 : decode cX7_accountTold 99 = .ok (.iconst 4, 1) := by decide +kernel
theorem dX7_accountTold_100 : decode cX7_accountTold 100 = .ok (.iaload, 1) := by decide +kernel
theorem dX7_accountTold_101 : decode cX7_accountTold 101 = .ok (.ireturn, 1) := by decide +kernel
theorem dX7_accountTold_102 : decode cX7_accountTold 102 = .ok (.aload_n 0, 1) := by decide +kernel
theorem dX7_accountTold_103 : decode cX7_accountTold 103 = .ok (.getfield 28, 3) := by decide +kernel
theorem dX7_accountTold_106 : decode cX7_accountTold 106 = .ok (.getfield 224, 3) := by decide +kernel
theorem dX7_accountTold_109 : decode cX7_accountTold 109 = .ok (.iconst 5, 1) := by decide +kernel
theorem dX7_accountTold_110 : decode cX7_accountTold 110 = .ok (.iaload, 1) := by decide +kernel
theorem dX7_accountTold_111 : decode cX7_accountTold 111 = .ok (.ireturn, 1) := by decide +kernel
theorem dX7_accountTold_112 : decode cX7_accountTold 112 = .ok (.aload_n 0, 1) := by decide +kernel
theorem dX7_accountTold_113 : decode cX7_accountTold 113 = .ok (.getfield 28, 3) := by decide +kernel
theorem dX7_accountTold_116 : decode cX7_accountTold 116 = .ok (.getfield 224, 3) := by decide +kernel
theorem dX7_accountTold_119 : decode cX7_accountTold 119 = .ok (.bipush 6, 2) := by decide +kernel
theorem dX7_accountTold_121 : decode cX7_accountTold 121 = .ok (.iaload, 1) := by decide +kernel
theorem dX7_accountTold_122 : decode cX7_accountTold 122 = .ok (.ireturn, 1) := by decide +kernel
theorem dX7_accountTold_123 : decode cX7_accountTold 123 = .ok (.aload_n 0, 1) := by decide +kernel
theorem dX7_accountTold_124 : decode cX7_accountTold 124 = .ok (.getfield 28, 3) := by decide +kernel
theorem dX7_accountTold_127 : decode cX7_accountTold 127 = .ok (.getfield 224, 3) := by decide +kernel
theorem dX7_accountTold_130 : decode cX7_accountTold 130 = .ok (.bipush 7, 2) := by decide +kernel
theorem dX7_accountTold_132 : decode cX7_accountTold 132 = .ok (.iaload, 1) := by decide +kernel
theorem dX7_accountTold_133 : decode cX7_accountTold 133 = .ok (.ireturn, 1) := by decide +kernel
theorem dX7_accountTold_134 : decode cX7_accountTold 134 = .ok (.bipush (-2), 2) := by decide +kernel
theorem dX7_accountTold_136 : decode cX7_accountTold 136 = .ok (.ireturn, 1) := by decide +kernel
theorem dX7_fewest_0 : decode cX7_fewest 0 = .ok (.iload_n 1, 1) := by decide +kernel
theorem dX7_fewest_1 : decode cX7_fewest 1 = .ok (.invokestatic 171, 3) := by decide +kernel
theorem dX7_fewest_4 : decode cX7_fewest 4 = .ok (.ifCond .eq 12, 3) := by decide +kernel
theorem dX7_fewest_7 : decode cX7_fewest 7 = .ok (.iload_n 2, 1) := by decide +kernel
theorem dX7_fewest_8 : decode cX7_fewest 8 = .ok (.ifCond .lt 8, 3) := by decide +kernel
theorem dX7_fewest_11 : decode cX7_fewest 11 = .ok (.iload_n 2, 1) := by decide +kernel
theorem dX7_fewest_12 : decode cX7_fewest 12 = .ok (.iconst 1, 1) := by decide +kernel
theorem dX7_fewest_13 : decode cX7_fewest 13 = .ok (.if_icmp .le 6, 3) := by decide +kernel
theorem dX7_fewest_16 : decode cX7_fewest 16 = .ok (.bipush (-2), 2) := by decide +kernel
theorem dX7_fewest_18 : decode cX7_fewest 18 = .ok (.ireturn, 1) := by decide +kernel
theorem dX7_fewest_19 : decode cX7_fewest 19 = .ok (.aload_n 0, 1) := by decide +kernel
theorem dX7_fewest_20 : decode cX7_fewest 20 = .ok (.getfield 21, 3) := by decide +kernel
theorem dX7_fewest_23 : decode cX7_fewest 23 = .ok (.aload_n 0, 1) := by decide +kernel
theorem dX7_fewest_24 : decode cX7_fewest 24 = .ok (.getfield 28, 3) := by decide +kernel
theorem dX7_fewest_27 : decode cX7_fewest 27 = .ok (.invokevirtual 184, 3) := by decide +kernel
theorem dX7_fewest_30 : decode cX7_fewest 30 = .ok (.aload_n 0, 1) := by decide +kernel
theorem dX7_fewest_31 : decode cX7_fewest 31 = .ok (.getfield 65, 3) := by decide +kernel
theorem dX7_fewest_34 : decode cX7_fewest 34 = .ok (.aload_n 0, 1) := by decide +kernel
theorem dX7_fewest_35 : decode cX7_fewest 35 = .ok (.getfield 21, 3) := by decide +kernel
theorem dX7_fewest_38 : decode cX7_fewest 38 = .ok (.aload_n 0, 1) := by decide +kernel
theorem dX7_fewest_39 : decode cX7_fewest 39 = .ok (.getfield 28, 3) := by decide +kernel
theorem dX7_fewest_42 : decode cX7_fewest 42 = .ok (.invokevirtual 227, 3) := by decide +kernel
theorem dX7_fewest_45 : decode cX7_fewest 45 = .ok (.aload_n 0, 1) := by decide +kernel
theorem dX7_fewest_46 : decode cX7_fewest 46 = .ok (.getfield 65, 3) := by decide +kernel
theorem dX7_fewest_49 : decode cX7_fewest 49 = .ok (.aload_n 0, 1) := by decide +kernel
theorem dX7_fewest_50 : decode cX7_fewest 50 = .ok (.getfield 21, 3) := by decide +kernel
theorem dX7_fewest_53 : decode cX7_fewest 53 = .ok (.iload_n 1, 1) := by decide +kernel
theorem dX7_fewest_54 : decode cX7_fewest 54 = .ok (.invokevirtual 231, 3) := by decide +kernel
theorem dX7_fewest_57 : decode cX7_fewest 57 = .ok (.invokevirtual 234, 3) := by decide +kernel
theorem dX7_fewest_60 : decode cX7_fewest 60 = .ok (.istore_n 3, 1) := by decide +kernel
theorem dX7_fewest_61 : decode cX7_fewest 61 = .ok (.iload_n 3, 1) := by decide +kernel
theorem dX7_fewest_62 : decode cX7_fewest 62 = .ok (.ifCond .ge 6, 3) := by decide +kernel
theorem dX7_fewest_65 : decode cX7_fewest 65 = .ok (.bipush (-5), 2) := by decide +kernel
theorem dX7_fewest_67 : decode cX7_fewest 67 = .ok (.ireturn, 1) := by decide +kernel
theorem dX7_fewest_68 : decode cX7_fewest 68 = .ok (.iload_n 2, 1) := by decide +kernel
theorem dX7_fewest_69 : decode cX7_fewest 69 = .ok (.ifCond .ne 10, 3) := by decide +kernel
theorem dX7_fewest_72 : decode cX7_fewest 72 = .ok (.iload_n 3, 1) := by decide +kernel
theorem dX7_fewest_73 : decode cX7_fewest 73 = .ok (.invokestatic 237, 3) := by decide +kernel
theorem dX7_fewest_76 : decode cX7_fewest 76 = .ok (.goto 4, 3) := by decide +kernel
theorem dX7_fewest_79 : decode cX7_fewest 79 = .ok (.iload_n 3, 1) := by decide +kernel
theorem dX7_fewest_80 : decode cX7_fewest 80 = .ok (.ireturn, 1) := by decide +kernel
theorem dX7_makes_0 : decode cX7_makes 0 = .ok (.aload_n 0, 1) := by decide +kernel
theorem dX7_makes_1 : decode cX7_makes 1 = .ok (.getfield 21, 3) := by decide +kernel
theorem dX7_makes_4 : decode cX7_makes 4 = .ok (.aload_n 0, 1) := by decide +kernel
theorem dX7_makes_5 : decode cX7_makes 5 = .ok (.getfield 28, 3) := by decide +kernel
theorem dX7_makes_8 : decode cX7_makes 8 = .ok (.invokevirtual 184, 3) := by decide +kernel
theorem dX7_makes_11 : decode cX7_makes 11 = .ok (.aload_n 0, 1) := by decide +kernel
theorem dX7_makes_12 : decode cX7_makes 12 = .ok (.getfield 65, 3) := by decide +kernel
theorem dX7_makes_15 : decode cX7_makes 15 = .ok (.aload_n 0, 1) := by decide +kernel
theorem dX7_makes_16 : decode cX7_makes 16 = .ok (.getfield 21, 3) := by decide +kernel
theorem dX7_makes_19 : decode cX7_makes 19 = .ok (.aload_n 0, 1) := by decide +kernel
theorem dX7_makes_20 : decode cX7_makes 20 = .ok (.getfield 28, 3) := by decide +kernel
theorem dX7_makes_23 : decode cX7_makes 23 = .ok (.invokevirtual 227, 3) := by decide +kernel
theorem dX7_makes_26 : decode cX7_makes 26 = .ok (.aload_n 0, 1) := by decide +kernel
theorem dX7_makes_27 : decode cX7_makes 27 = .ok (.getfield 65, 3) := by decide +kernel
theorem dX7_makes_30 : decode cX7_makes 30 = .ok (.invokevirtual 242, 3) := by decide +kernel
theorem dX7_makes_33 : decode cX7_makes 33 = .ok (.ireturn, 1) := by decide +kernel
theorem dX7_needless_0 : decode cX7_needless 0 = .ok (.aload_n 0, 1) := by decide +kernel
theorem dX7_needless_1 : decode cX7_needless 1 = .ok (.getfield 21, 3) := by decide +kernel
theorem dX7_needless_4 : decode cX7_needless 4 = .ok (.aload_n 0, 1) := by decide +kernel
theorem dX7_needless_5 : decode cX7_needless 5 = .ok (.getfield 28, 3) := by decide +kernel
theorem dX7_needless_8 : decode cX7_needless 8 = .ok (.invokevirtual 184, 3) := by decide +kernel
theorem dX7_needless_11 : decode cX7_needless 11 = .ok (.aload_n 0, 1) := by decide +kernel
theorem dX7_needless_12 : decode cX7_needless 12 = .ok (.getfield 21, 3) := by decide +kernel
theorem dX7_needless_15 : decode cX7_needless 15 = .ok (.invokevirtual 245, 3) := by decide +kernel
theorem dX7_needless_18 : decode cX7_needless 18 = .ok (.ireturn, 1) := by decide +kernel
theorem dX7_ifPoured_0 : decode cX7_ifPoured 0 = .ok (.aload_n 0, 1) := by decide +kernel
theorem dX7_ifPoured_1 : decode cX7_ifPoured 1 = .ok (.getfield 28, 3) := by decide +kernel
theorem dX7_ifPoured_4 : decode cX7_ifPoured 4 = .ok (.iload_n 1, 1) := by decide +kernel
theorem dX7_ifPoured_5 : decode cX7_ifPoured 5 = .ok (.invokevirtual 140, 3) := by decide +kernel
theorem dX7_ifPoured_8 : decode cX7_ifPoured 8 = .ok (.istore_n 3, 1) := by decide +kernel
theorem dX7_ifPoured_9 : decode cX7_ifPoured 9 = .ok (.aload_n 0, 1) := by decide +kernel
theorem dX7_ifPoured_10 : decode cX7_ifPoured 10 = .ok (.getfield 28, 3) := by decide +kernel
theorem dX7_ifPoured_13 : decode cX7_ifPoured 13 = .ok (.iload_n 2, 1) := by decide +kernel
theorem dX7_ifPoured_14 : decode cX7_ifPoured 14 = .ok (.invokevirtual 140, 3) := by decide +kernel
theorem dX7_ifPoured_17 : decode cX7_ifPoured 17 = .ok (.istore 4, 2) := by decide +kernel
theorem dX7_ifPoured_19 : decode cX7_ifPoured 19 = .ok (.iload_n 3, 1) := by decide +kernel
theorem dX7_ifPoured_20 : decode cX7_ifPoured 20 = .ok (.ifCond .lt 8, 3) := by decide +kernel
theorem dX7_ifPoured_23 : decode cX7_ifPoured 23 = .ok (.iload 4, 2) := by decide +kernel
theorem dX7_ifPoured_25 : decode cX7_ifPoured 25 = .ok (.ifCond .ge 5, 3) := by decide +kernel
theorem dX7_ifPoured_28 : decode cX7_ifPoured 28 = .ok (.iconst (-1), 1) := by decide +kernel
theorem dX7_ifPoured_29 : decode cX7_ifPoured 29 = .ok (.ireturn, 1) := by decide +kernel
theorem dX7_ifPoured_30 : decode cX7_ifPoured 30 = .ok (.iload_n 3, 1) := by decide +kernel
theorem dX7_ifPoured_31 : decode cX7_ifPoured 31 = .ok (.iload 4, 2) := by decide +kernel
theorem dX7_ifPoured_33 : decode cX7_ifPoured 33 = .ok (.if_icmp .ne 6, 3) := by decide +kernel
theorem dX7_ifPoured_36 : decode cX7_ifPoured 36 = .ok (.bipush (-2), 2) := by decide +kernel
theorem dX7_ifPoured_38 : decode cX7_ifPoured 38 = .ok (.ireturn, 1) := by decide +kernel
theorem dX7_ifPoured_39 : decode cX7_ifPoured 39 = .ok (.aload_n 0, 1) := by decide +kernel
theorem dX7_ifPoured_40 : decode cX7_ifPoured 40 = .ok (.aload_n 0, 1) := by decide +kernel
theorem dX7_ifPoured_41 : decode cX7_ifPoured 41 = .ok (.getfield 10, 3) := by decide +kernel
theorem dX7_ifPoured_44 : decode cX7_ifPoured 44 = .ok (.aload_n 0, 1) := by decide +kernel
theorem dX7_ifPoured_45 : decode cX7_ifPoured 45 = .ok (.getfield 28, 3) := by decide +kernel
theorem dX7_ifPoured_48 : decode cX7_ifPoured 48 = .ok (.getfield 143, 3) := by decide +kernel
theorem dX7_ifPoured_51 : decode cX7_ifPoured 51 = .ok (.iload_n 3, 1) := by decide +kernel
theorem dX7_ifPoured_52 : decode cX7_ifPoured 52 = .ok (.iaload, 1) := by decide +kernel
theorem dX7_ifPoured_53 : decode cX7_ifPoured 53 = .ok (.aload_n 0, 1) := by decide +kernel
theorem dX7_ifPoured_54 : decode cX7_ifPoured 54 = .ok (.getfield 28, 3) := by decide +kernel
theorem dX7_ifPoured_57 : decode cX7_ifPoured 57 = .ok (.getfield 143, 3) := by decide +kernel
theorem dX7_ifPoured_60 : decode cX7_ifPoured 60 = .ok (.iload 4, 2) := by decide +kernel
theorem dX7_ifPoured_62 : decode cX7_ifPoured 62 = .ok (.iaload, 1) := by decide +kernel
theorem dX7_ifPoured_63 : decode cX7_ifPoured 63 = .ok (.invokevirtual 181, 3) := by decide +kernel
theorem dX7_ifPoured_66 : decode cX7_ifPoured 66 = .ok (.invokevirtual 156, 3) := by decide +kernel
theorem dX7_ifPoured_69 : decode cX7_ifPoured 69 = .ok (.ireturn, 1) := by decide +kernel
theorem dX7_strength_0 : decode cX7_strength 0 = .ok (.aload_n 0, 1) := by decide +kernel
theorem dX7_strength_1 : decode cX7_strength 1 = .ok (.getfield 21, 3) := by decide +kernel
theorem dX7_strength_4 : decode cX7_strength 4 = .ok (.aload_n 0, 1) := by decide +kernel
theorem dX7_strength_5 : decode cX7_strength 5 = .ok (.getfield 28, 3) := by decide +kernel
theorem dX7_strength_8 : decode cX7_strength 8 = .ok (.invokevirtual 184, 3) := by decide +kernel
theorem dX7_strength_11 : decode cX7_strength 11 = .ok (.aload_n 0, 1) := by decide +kernel
theorem dX7_strength_12 : decode cX7_strength 12 = .ok (.getfield 21, 3) := by decide +kernel
theorem dX7_strength_15 : decode cX7_strength 15 = .ok (.getfield 248, 3) := by decide +kernel
theorem dX7_strength_18 : decode cX7_strength 18 = .ok (.ireturn, 1) := by decide +kernel
theorem dX7_tasteOf_0 : decode cX7_tasteOf 0 = .ok (.aload_n 0, 1) := by decide +kernel
theorem dX7_tasteOf_1 : decode cX7_tasteOf 1 = .ok (.getfield 21, 3) := by decide +kernel
theorem dX7_tasteOf_4 : decode cX7_tasteOf 4 = .ok (.aload_n 0, 1) := by decide +kernel
theorem dX7_tasteOf_5 : decode cX7_tasteOf 5 = .ok (.getfield 28, 3) := by decide +kernel
theorem dX7_tasteOf_8 : decode cX7_tasteOf 8 = .ok (.invokevirtual 184, 3) := by decide +kernel
theorem dX7_tasteOf_11 : decode cX7_tasteOf 11 = .ok (.aload_n 0, 1) := by decide +kernel
theorem dX7_tasteOf_12 : decode cX7_tasteOf 12 = .ok (.getfield 21, 3) := by decide +kernel
theorem dX7_tasteOf_15 : decode cX7_tasteOf 15 = .ok (.iload_n 1, 1) := by decide +kernel
theorem dX7_tasteOf_16 : decode cX7_tasteOf 16 = .ok (.invokevirtual 231, 3) := by decide +kernel
theorem dX7_tasteOf_19 : decode cX7_tasteOf 19 = .ok (.ireturn, 1) := by decide +kernel
theorem dX7_cheapestLike_0 : decode cX7_cheapestLike 0 = .ok (.aload_n 0, 1) := by decide +kernel
theorem dX7_cheapestLike_1 : decode cX7_cheapestLike 1 = .ok (.getfield 21, 3) := by decide +kernel
theorem dX7_cheapestLike_4 : decode cX7_cheapestLike 4 = .ok (.aload_n 0, 1) := by decide +kernel
theorem dX7_cheapestLike_5 : decode cX7_cheapestLike 5 = .ok (.getfield 28, 3) := by decide +kernel
theorem dX7_cheapestLike_8 : decode cX7_cheapestLike 8 = .ok (.invokevirtual 184, 3) := by decide +kernel
theorem dX7_cheapestLike_11 : decode cX7_cheapestLike 11 = .ok (.aload_n 0, 1) := by decide +kernel
theorem dX7_cheapestLike_12 : decode cX7_cheapestLike 12 = .ok (.getfield 21, 3) := by decide +kernel
theorem dX7_cheapestLike_15 : decode cX7_cheapestLike 15 = .ok (.iload_n 1, 1) := by decide +kernel
theorem dX7_cheapestLike_16 : decode cX7_cheapestLike 16 = .ok (.aload_n 0, 1) := by decide +kernel
theorem dX7_cheapestLike_17 : decode cX7_cheapestLike 17 = .ok (.getfield 28, 3) := by decide +kernel
theorem dX7_cheapestLike_20 : decode cX7_cheapestLike 20 = .ok (.getfield 149, 3) := by decide +kernel
theorem dX7_cheapestLike_23 : decode cX7_cheapestLike 23 = .ok (.invokevirtual 250, 3) := by decide +kernel
theorem dX7_cheapestLike_26 : decode cX7_cheapestLike 26 = .ok (.ireturn, 1) := by decide +kernel
theorem dX7_shelves_0 : decode cX7_shelves 0 = .ok (.aload_n 0, 1) := by decide +kernel
theorem dX7_shelves_1 : decode cX7_shelves 1 = .ok (.getfield 21, 3) := by decide +kernel
theorem dX7_shelves_4 : decode cX7_shelves 4 = .ok (.aload_n 0, 1) := by decide +kernel
theorem dX7_shelves_5 : decode cX7_shelves 5 = .ok (.getfield 28, 3) := by decide +kernel
theorem dX7_shelves_8 : decode cX7_shelves 8 = .ok (.invokevirtual 184, 3) := by decide +kernel
theorem dX7_shelves_11 : decode cX7_shelves 11 = .ok (.iconst 0, 1) := by decide +kernel
theorem dX7_shelves_12 : decode cX7_shelves 12 = .ok (.istore_n 1, 1) := by decide +kernel
theorem dX7_shelves_13 : decode cX7_shelves 13 = .ok (.aload_n 0, 1) := by decide +kernel
theorem dX7_shelves_14 : decode cX7_shelves 14 = .ok (.iconst (-1), 1) := by decide +kernel
theorem dX7_shelves_15 : decode cX7_shelves 15 = .ok (.invokevirtual 252, 3) := by decide +kernel
theorem dX7_shelves_18 : decode cX7_shelves 18 = .ok (.istore_n 2, 1) := by decide +kernel
theorem dX7_shelves_19 : decode cX7_shelves 19 = .ok (.iconst 0, 1) := by decide +kernel
theorem dX7_shelves_20 : decode cX7_shelves 20 = .ok (.istore_n 3, 1) := by decide +kernel
theorem dX7_shelves_21 : decode cX7_shelves 21 = .ok (.iload_n 3, 1) := by decide +kernel
theorem dX7_shelves_22 : decode cX7_shelves 22 = .ok (.aload_n 0, 1) := by decide +kernel
theorem dX7_shelves_23 : decode cX7_shelves 23 = .ok (.getfield 28, 3) := by decide +kernel
theorem dX7_shelves_26 : decode cX7_shelves 26 = .ok (.getfield 133, 3) := by decide +kernel
theorem dX7_shelves_29 : decode cX7_shelves 29 = .ok (.if_icmp .ge 22, 3) := by decide +kernel
theorem dX7_shelves_32 : decode cX7_shelves 32 = .ok (.iload_n 2, 1) := by decide +kernel
theorem dX7_shelves_33 : decode cX7_shelves 33 = .ok (.ifCond .lt 18, 3) := by decide +kernel
theorem dX7_shelves_36 : decode cX7_shelves 36 = .ok (.iinc 1 1, 3) := by decide +kernel
theorem dX7_shelves_39 : decode cX7_shelves 39 = .ok (.aload_n 0, 1) := by decide +kernel
theorem dX7_shelves_40 : decode cX7_shelves 40 = .ok (.iload_n 2, 1) := by decide +kernel
theorem dX7_shelves_41 : decode cX7_shelves 41 = .ok (.invokevirtual 252, 3) := by decide +kernel
theorem dX7_shelves_44 : decode cX7_shelves 44 = .ok (.istore_n 2, 1) := by decide +kernel
theorem dX7_shelves_45 : decode cX7_shelves 45 = .ok (.iinc 3 1, 3) := by decide +kernel
theorem dX7_shelves_48 : decode cX7_shelves 48 = .ok (.goto (-27), 3) := by decide +kernel
theorem dX7_shelves_51 : decode cX7_shelves 51 = .ok (.iload_n 1, 1) := by decide +kernel
theorem dX7_shelves_52 : decode cX7_shelves 52 = .ok (.ireturn, 1) := by decide +kernel
theorem dX7_jarsLike_0 : decode cX7_jarsLike 0 = .ok (.iconst 0, 1) := by decide +kernel
theorem dX7_jarsLike_1 : decode cX7_jarsLike 1 = .ok (.istore_n 2, 1) := by decide +kernel
theorem dX7_jarsLike_2 : decode cX7_jarsLike 2 = .ok (.iconst 0, 1) := by decide +kernel
theorem dX7_jarsLike_3 : decode cX7_jarsLike 3 = .ok (.istore_n 3, 1) := by decide +kernel
theorem dX7_jarsLike_4 : decode cX7_jarsLike 4 = .ok (.iload_n 3, 1) := by decide +kernel
theorem dX7_jarsLike_5 : decode cX7_jarsLike 5 = .ok (.aload_n 0, 1) := by decide +kernel
theorem dX7_jarsLike_6 : decode cX7_jarsLike 6 = .ok (.getfield 28, 3) := by decide +kernel
theorem dX7_jarsLike_9 : decode cX7_jarsLike 9 = .ok (.getfield 133, 3) := by decide +kernel
theorem dX7_jarsLike_12 : decode cX7_jarsLike 12 = .ok (.if_icmp .ge 32, 3) := by decide +kernel
theorem dX7_jarsLike_15 : decode cX7_jarsLike 15 = .ok (.aload_n 0, 1) := by decide +kernel
theorem dX7_jarsLike_16 : decode cX7_jarsLike 16 = .ok (.getfield 21, 3) := by decide +kernel
theorem dX7_jarsLike_19 : decode cX7_jarsLike 19 = .ok (.aload_n 0, 1) := by decide +kernel
theorem dX7_jarsLike_20 : decode cX7_jarsLike 20 = .ok (.getfield 28, 3) := by decide +kernel
theorem dX7_jarsLike_23 : decode cX7_jarsLike 23 = .ok (.getfield 143, 3) := by decide +kernel
theorem dX7_jarsLike_26 : decode cX7_jarsLike 26 = .ok (.iload_n 3, 1) := by decide +kernel
theorem dX7_jarsLike_27 : decode cX7_jarsLike 27 = .ok (.iaload, 1) := by decide +kernel
theorem dX7_jarsLike_28 : decode cX7_jarsLike 28 = .ok (.invokevirtual 231, 3) := by decide +kernel
theorem dX7_jarsLike_31 : decode cX7_jarsLike 31 = .ok (.iload_n 1, 1) := by decide +kernel
theorem dX7_jarsLike_32 : decode cX7_jarsLike 32 = .ok (.if_icmp .ne 6, 3) := by decide +kernel
theorem dX7_jarsLike_35 : decode cX7_jarsLike 35 = .ok (.iinc 2 1, 3) := by decide +kernel
theorem dX7_jarsLike_38 : decode cX7_jarsLike 38 = .ok (.iinc 3 1, 3) := by decide +kernel
theorem dX7_jarsLike_41 : decode cX7_jarsLike 41 = .ok (.goto (-37), 3) := by decide +kernel
theorem dX7_jarsLike_44 : decode cX7_jarsLike 44 = .ok (.iload_n 2, 1) := by decide +kernel
theorem dX7_jarsLike_45 : decode cX7_jarsLike 45 = .ok (.ireturn, 1) := by decide +kernel
theorem dX7_lowestJarLike_0 : decode cX7_lowestJarLike 0 = .ok (.aload_n 0, 1) := by decide +kernel
theorem dX7_lowestJarLike_1 : decode cX7_lowestJarLike 1 = .ok (.getfield 21, 3) := by decide +kernel
theorem dX7_lowestJarLike_4 : decode cX7_lowestJarLike 4 = .ok (.iload_n 1, 1) := by decide +kernel
theorem dX7_lowestJarLike_5 : decode cX7_lowestJarLike 5 = .ok (.aload_n 0, 1) := by decide +kernel
theorem dX7_lowestJarLike_6 : decode cX7_lowestJarLike 6 = .ok (.getfield 28, 3) := by decide +kernel
theorem dX7_lowestJarLike_9 : decode cX7_lowestJarLike 9 = .ok (.invokevirtual 255, 3) := by decide +kernel
theorem dX7_lowestJarLike_12 : decode cX7_lowestJarLike 12 = .ok (.istore_n 2, 1) := by decide +kernel
theorem dX7_lowestJarLike_13 : decode cX7_lowestJarLike 13 = .ok (.iload_n 2, 1) := by decide +kernel
theorem dX7_lowestJarLike_14 : decode cX7_lowestJarLike 14 = .ok (.ifCond .ge 8, 3) := by decide +kernel
theorem dX7_lowestJarLike_17 : decode cX7_lowestJarLike 17 = .ok (.bipush (-5), 2) := by decide +kernel
theorem dX7_lowestJarLike_19 : decode cX7_lowestJarLike 19 = .ok (.goto 12, 3) := by decide +kernel
theorem dX7_lowestJarLike_22 : decode cX7_lowestJarLike 22 = .ok (.aload_n 0, 1) := by decide +kernel
theorem dX7_lowestJarLike_23 : decode cX7_lowestJarLike 23 = .ok (.getfield 28, 3) := by decide +kernel
theorem dX7_lowestJarLike_26 : decode cX7_lowestJarLike 26 = .ok (.getfield 162, 3) := by decide +kernel
theorem dX7_lowestJarLike_29 : decode cX7_lowestJarLike 29 = .ok (.iload_n 2, 1) := by decide +kernel
theorem dX7_lowestJarLike_30 : decode cX7_lowestJarLike 30 = .ok (.iaload, 1) := by decide +kernel
theorem dX7_lowestJarLike_31 : decode cX7_lowestJarLike 31 = .ok (.ireturn, 1) := by decide +kernel
theorem dX7_cheapestJarLike_0 : decode cX7_cheapestJarLike 0 = .ok (.bipush (-5), 2) := by decide +kernel
theorem dX7_cheapestJarLike_2 : decode cX7_cheapestJarLike 2 = .ok (.istore_n 2, 1) := by decide +kernel
theorem dX7_cheapestJarLike_3 : decode cX7_cheapestJarLike 3 = .ok (.iconst 0, 1) := by decide +kernel
theorem dX7_cheapestJarLike_4 : decode cX7_cheapestJarLike 4 = .ok (.istore_n 3, 1) := by decide +kernel
theorem dX7_cheapestJarLike_5 : decode cX7_cheapestJarLike 5 = .ok (.iconst 0, 1) := by decide +kernel
theorem dX7_cheapestJarLike_6 : decode cX7_cheapestJarLike 6 = .ok (.istore 4, 2) := by decide +kernel
theorem dX7_cheapestJarLike_8 : decode cX7_cheapestJarLike 8 = .ok (.iload 4, 2) := by decide +kernel
theorem dX7_cheapestJarLike_10 : decode cX7_cheapestJarLike 10 = .ok (.aload_n 0, 1) := by decide +kernel
theorem dX7_cheapestJarLike_11 : decode cX7_cheapestJarLike 11 = .ok (.getfield 28, 3) := by decide +kernel
theorem dX7_cheapestJarLike_14 : decode cX7_cheapestJarLike 14 = .ok (.getfield 133, 3) := by decide +kernel
theorem dX7_cheapestJarLike_17 : decode cX7_cheapestJarLike 17 = .ok (.if_icmp .ge 90, 3) := by decide +kernel
theorem dX7_cheapestJarLike_20 : decode cX7_cheapestJarLike 20 = .ok (.aload_n 0, 1) := by decide +kernel
theorem dX7_cheapestJarLike_21 : decode cX7_cheapestJarLike 21 = .ok (.getfield 28, 3) := by decide +kernel
theorem dX7_cheapestJarLike_24 : decode cX7_cheapestJarLike 24 = .ok (.getfield 143, 3) := by decide +kernel
theorem dX7_cheapestJarLike_27 : decode cX7_cheapestJarLike 27 = .ok (.iload 4, 2) := by decide +kernel
theorem dX7_cheapestJarLike_29 : decode cX7_cheapestJarLike 29 = .ok (.iaload, 1) := by decide +kernel
theorem dX7_cheapestJarLike_30 : decode cX7_cheapestJarLike 30 = .ok (.aload_n 0, 1) := by decide +kernel
theorem dX7_cheapestJarLike_31 : decode cX7_cheapestJarLike 31 = .ok (.getfield 28, 3) := by decide +kernel
theorem dX7_cheapestJarLike_34 : decode cX7_cheapestJarLike 34 = .ok (.getfield 149, 3) := by decide +kernel
theorem dX7_cheapestJarLike_37 : decode cX7_cheapestJarLike 37 = .ok (.invokestatic 152, 3) := by decide +kernel
theorem dX7_cheapestJarLike_40 : decode cX7_cheapestJarLike 40 = .ok (.istore 5, 2) := by decide +kernel
theorem dX7_cheapestJarLike_42 : decode cX7_cheapestJarLike 42 = .ok (.iload_n 2, 1) := by decide +kernel
theorem dX7_cheapestJarLike_43 : decode cX7_cheapestJarLike 43 = .ok (.bipush (-5), 2) := by decide +kernel
theorem dX7_cheapestJarLike_45 : decode cX7_cheapestJarLike 45 = .ok (.if_icmp .eq 9, 3) := by decide +kernel
theorem dX7_cheapestJarLike_48 : decode cX7_cheapestJarLike 48 = .ok (.iload 5, 2) := by decide +kernel
theorem dX7_cheapestJarLike_50 : decode cX7_cheapestJarLike 50 = .ok (.iload_n 3, 1) := by decide +kernel
theorem dX7_cheapestJarLike_51 : decode cX7_cheapestJarLike 51 = .ok (.if_icmp .ge 7, 3) := by decide +kernel
theorem dX7_cheapestJarLike_54 : decode cX7_cheapestJarLike 54 = .ok (.iconst 1, 1) := by decide +kernel
theorem dX7_cheapestJarLike_55 : decode cX7_cheapestJarLike 55 = .ok (.goto 4, 3) := by decide +kernel
theorem dX7_cheapestJarLike_58 : decode cX7_cheapestJarLike 58 = .ok (.iconst 0, 1) := by decide +kernel
theorem dX7_cheapestJarLike_59 : decode cX7_cheapestJarLike 59 = .ok (.istore 6, 2) := by decide +kernel
theorem dX7_cheapestJarLike_61 : decode cX7_cheapestJarLike 61 = .ok (.iload 6, 2) := by decide +kernel
theorem dX7_cheapestJarLike_63 : decode cX7_cheapestJarLike 63 = .ok (.ifCond .eq 38, 3) := by decide +kernel
theorem dX7_cheapestJarLike_66 : decode cX7_cheapestJarLike 66 = .ok (.aload_n 0, 1) := by decide +kernel
theorem dX7_cheapestJarLike_67 : decode cX7_cheapestJarLike 67 = .ok (.getfield 21, 3) := by decide +kernel
theorem dX7_cheapestJarLike_70 : decode cX7_cheapestJarLike 70 = .ok (.aload_n 0, 1) := by decide +kernel
theorem dX7_cheapestJarLike_71 : decode cX7_cheapestJarLike 71 = .ok (.getfield 28, 3) := by decide +kernel
theorem dX7_cheapestJarLike_74 : decode cX7_cheapestJarLike 74 = .ok (.getfield 143, 3) := by decide +kernel
theorem dX7_cheapestJarLike_77 : decode cX7_cheapestJarLike 77 = .ok (.iload 4, 2) := by decide +kernel
theorem dX7_cheapestJarLike_79 : decode cX7_cheapestJarLike 79 = .ok (.iaload, 1) := by decide +kernel
theorem dX7_cheapestJarLike_80 : decode cX7_cheapestJarLike 80 = .ok (.invokevirtual 231, 3) := by decide +kernel
theorem dX7_cheapestJarLike_83 : decode cX7_cheapestJarLike 83 = .ok (.iload_n 1, 1) := by decide +kernel
theorem dX7_cheapestJarLike_84 : decode cX7_cheapestJarLike 84 = .ok (.if_icmp .ne 17, 3) := by decide +kernel
theorem dX7_cheapestJarLike_87 : decode cX7_cheapestJarLike 87 = .ok (.aload_n 0, 1) := by decide +kernel
theorem dX7_cheapestJarLike_88 : decode cX7_cheapestJarLike 88 = .ok (.getfield 28, 3) := by decide +kernel
theorem dX7_cheapestJarLike_91 : decode cX7_cheapestJarLike 91 = .ok (.getfield 162, 3) := by decide +kernel
theorem dX7_cheapestJarLike_94 : decode cX7_cheapestJarLike 94 = .ok (.iload 4, 2) := by decide +kernel
theorem dX7_cheapestJarLike_96 : decode cX7_cheapestJarLike 96 = .ok (.iaload, 1) := by decide +kernel
theorem dX7_cheapestJarLike_97 : decode cX7_cheapestJarLike 97 = .ok (.istore_n 2, 1) := by decide +kernel
theorem dX7_cheapestJarLike_98 : decode cX7_cheapestJarLike 98 = .ok (.iload 5, 2) := by decide +kernel
theorem dX7_cheapestJarLike_100 : decode cX7_cheapestJarLike 100 = .ok (.istore_n 3, 1) := by decide +kernel
theorem dX7_cheapestJarLike_101 : decode cX7_cheapestJarLike 101 = .ok (.iinc 4 1, 3) := by decide +kernel
theorem dX7_cheapestJarLike_104 : decode cX7_cheapestJarLike 104 = .ok (.goto (-96), 3) := by decide +kernel
theorem dX7_cheapestJarLike_107 : decode cX7_cheapestJarLike 107 = .ok (.iload_n 2, 1) := by decide +kernel
theorem dX7_cheapestJarLike_108 : decode cX7_cheapestJarLike 108 = .ok (.ireturn, 1) := by decide +kernel
theorem dX7_tasteOfShelf_0 : decode cX7_tasteOfShelf 0 = .ok (.iload_n 1, 1) := by decide +kernel
theorem dX7_tasteOfShelf_1 : decode cX7_tasteOfShelf 1 = .ok (.aload_n 0, 1) := by decide +kernel
theorem dX7_tasteOfShelf_2 : decode cX7_tasteOfShelf 2 = .ok (.getfield 28, 3) := by decide +kernel
theorem dX7_tasteOfShelf_5 : decode cX7_tasteOfShelf 5 = .ok (.getfield 133, 3) := by decide +kernel
theorem dX7_tasteOfShelf_8 : decode cX7_tasteOfShelf 8 = .ok (.if_icmp .lt 6, 3) := by decide +kernel
theorem dX7_tasteOfShelf_11 : decode cX7_tasteOfShelf 11 = .ok (.bipush (-5), 2) := by decide +kernel
theorem dX7_tasteOfShelf_13 : decode cX7_tasteOfShelf 13 = .ok (.ireturn, 1) := by decide +kernel
theorem dX7_tasteOfShelf_14 : decode cX7_tasteOfShelf 14 = .ok (.aload_n 0, 1) := by decide +kernel
theorem dX7_tasteOfShelf_15 : decode cX7_tasteOfShelf 15 = .ok (.iconst (-1), 1) := by decide +kernel
theorem dX7_tasteOfShelf_16 : decode cX7_tasteOfShelf 16 = .ok (.invokevirtual 252, 3) := by decide +kernel
theorem dX7_tasteOfShelf_19 : decode cX7_tasteOfShelf 19 = .ok (.istore_n 2, 1) := by decide +kernel
theorem dX7_tasteOfShelf_20 : decode cX7_tasteOfShelf 20 = .ok (.iconst 0, 1) := by decide +kernel
theorem dX7_tasteOfShelf_21 : decode cX7_tasteOfShelf 21 = .ok (.istore_n 3, 1) := by decide +kernel
theorem dX7_tasteOfShelf_22 : decode cX7_tasteOfShelf 22 = .ok (.iload_n 3, 1) := by decide +kernel
theorem dX7_tasteOfShelf_23 : decode cX7_tasteOfShelf 23 = .ok (.iload_n 1, 1) := by decide +kernel
theorem dX7_tasteOfShelf_24 : decode cX7_tasteOfShelf 24 = .ok (.if_icmp .ge 19, 3) := by decide +kernel
theorem dX7_tasteOfShelf_27 : decode cX7_tasteOfShelf 27 = .ok (.iload_n 2, 1) := by decide +kernel
theorem dX7_tasteOfShelf_28 : decode cX7_tasteOfShelf 28 = .ok (.ifCond .lt 15, 3) := by decide +kernel
theorem dX7_tasteOfShelf_31 : decode cX7_tasteOfShelf 31 = .ok (.aload_n 0, 1) := by decide +kernel
theorem dX7_tasteOfShelf_32 : decode cX7_tasteOfShelf 32 = .ok (.iload_n 2, 1) := by decide +kernel
theorem dX7_tasteOfShelf_33 : decode cX7_tasteOfShelf 33 = .ok (.invokevirtual 252, 3) := by decide +kernel
theorem dX7_tasteOfShelf_36 : decode cX7_tasteOfShelf 36 = .ok (.istore_n 2, 1) := by decide +kernel
theorem dX7_tasteOfShelf_37 : decode cX7_tasteOfShelf 37 = .ok (.iinc 3 1, 3) := by decide +kernel
theorem dX7_tasteOfShelf_40 : decode cX7_tasteOfShelf 40 = .ok (.goto (-18), 3) := by decide +kernel
theorem dX7_tasteOfShelf_43 : decode cX7_tasteOfShelf 43 = .ok (.iload_n 2, 1) := by decide +kernel
theorem dX7_tasteOfShelf_44 : decode cX7_tasteOfShelf 44 = .ok (.ireturn, 1) := by decide +kernel
theorem dX7_nextShelf_0 : decode cX7_nextShelf 0 = .ok (.bipush (-5), 2) := by decide +kernel
theorem dX7_nextShelf_2 : decode cX7_nextShelf 2 = .ok (.istore_n 2, 1) := by decide +kernel
theorem dX7_nextShelf_3 : decode cX7_nextShelf 3 = .ok (.iconst 0, 1) := by decide +kernel
theorem dX7_nextShelf_4 : decode cX7_nextShelf 4 = .ok (.istore_n 3, 1) := by decide +kernel
theorem dX7_nextShelf_5 : decode cX7_nextShelf 5 = .ok (.iload_n 3, 1) := by decide +kernel
theorem dX7_nextShelf_6 : decode cX7_nextShelf 6 = .ok (.aload_n 0, 1) := by decide +kernel
theorem dX7_nextShelf_7 : decode cX7_nextShelf 7 = .ok (.getfield 28, 3) := by decide +kernel
theorem dX7_nextShelf_10 : decode cX7_nextShelf 10 = .ok (.getfield 133, 3) := by decide +kernel
theorem dX7_nextShelf_13 : decode cX7_nextShelf 13 = .ok (.if_icmp .ge 48, 3) := by decide +kernel
theorem dX7_nextShelf_16 : decode cX7_nextShelf 16 = .ok (.aload_n 0, 1) := by decide +kernel
theorem dX7_nextShelf_17 : decode cX7_nextShelf 17 = .ok (.getfield 21, 3) := by decide +kernel
theorem dX7_nextShelf_20 : decode cX7_nextShelf 20 = .ok (.aload_n 0, 1) := by decide +kernel
theorem dX7_nextShelf_21 : decode cX7_nextShelf 21 = .ok (.getfield 28, 3) := by decide +kernel
theorem dX7_nextShelf_24 : decode cX7_nextShelf 24 = .ok (.getfield 143, 3) := by decide +kernel
theorem dX7_nextShelf_27 : decode cX7_nextShelf 27 = .ok (.iload_n 3, 1) := by decide +kernel
theorem dX7_nextShelf_28 : decode cX7_nextShelf 28 = .ok (.iaload, 1) := by decide +kernel
theorem dX7_nextShelf_29 : decode cX7_nextShelf 29 = .ok (.invokevirtual 231, 3) := by decide +kernel
theorem dX7_nextShelf_32 : decode cX7_nextShelf 32 = .ok (.istore 4, 2) := by decide +kernel
theorem dX7_nextShelf_34 : decode cX7_nextShelf 34 = .ok (.iload 4, 2) := by decide +kernel
theorem dX7_nextShelf_36 : decode cX7_nextShelf 36 = .ok (.iload_n 1, 1) := by decide +kernel
theorem dX7_nextShelf_37 : decode cX7_nextShelf 37 = .ok (.if_icmp .le 18, 3) := by decide +kernel
theorem dX7_nextShelf_40 : decode cX7_nextShelf 40 = .ok (.iload_n 2, 1) := by decide +kernel
theorem dX7_nextShelf_41 : decode cX7_nextShelf 41 = .ok (.bipush (-5), 2) := by decide +kernel
theorem dX7_nextShelf_43 : decode cX7_nextShelf 43 = .ok (.if_icmp .eq 9, 3) := by decide +kernel
theorem dX7_nextShelf_46 : decode cX7_nextShelf 46 = .ok (.iload 4, 2) := by decide +kernel
theorem dX7_nextShelf_48 : decode cX7_nextShelf 48 = .ok (.iload_n 2, 1) := by decide +kernel
theorem dX7_nextShelf_49 : decode cX7_nextShelf 49 = .ok (.if_icmp .ge 6, 3) := by decide +kernel
theorem dX7_nextShelf_52 : decode cX7_nextShelf 52 = .ok (.iload 4, 2) := by decide +kernel
theorem dX7_nextShelf_54 : decode cX7_nextShelf 54 = .ok (.istore_n 2, 1) := by decide +kernel
theorem dX7_nextShelf_55 : decode cX7_nextShelf 55 = .ok (.iinc 3 1, 3) := by decide +kernel
theorem dX7_nextShelf_58 : decode cX7_nextShelf 58 = .ok (.goto (-53), 3) := by decide +kernel
theorem dX7_nextShelf_61 : decode cX7_nextShelf 61 = .ok (.iload_n 2, 1) := by decide +kernel
theorem dX7_nextShelf_62 : decode cX7_nextShelf 62 = .ok (.ireturn, 1) := by decide +kernel
theorem dX7_unitsInJars_0 : decode cX7_unitsInJars 0 = .ok (.iconst 0, 1) := by decide +kernel
theorem dX7_unitsInJars_1 : decode cX7_unitsInJars 1 = .ok (.istore_n 1, 1) := by decide +kernel
theorem dX7_unitsInJars_2 : decode cX7_unitsInJars 2 = .ok (.iconst 0, 1) := by decide +kernel
theorem dX7_unitsInJars_3 : decode cX7_unitsInJars 3 = .ok (.istore_n 2, 1) := by decide +kernel
theorem dX7_unitsInJars_4 : decode cX7_unitsInJars 4 = .ok (.iload_n 2, 1) := by decide +kernel
theorem dX7_unitsInJars_5 : decode cX7_unitsInJars 5 = .ok (.aload_n 0, 1) := by decide +kernel
theorem dX7_unitsInJars_6 : decode cX7_unitsInJars 6 = .ok (.getfield 28, 3) := by decide +kernel
theorem dX7_unitsInJars_9 : decode cX7_unitsInJars 9 = .ok (.getfield 133, 3) := by decide +kernel
theorem dX7_unitsInJars_12 : decode cX7_unitsInJars 12 = .ok (.if_icmp .ge 24, 3) := by decide +kernel
theorem dX7_unitsInJars_15 : decode cX7_unitsInJars 15 = .ok (.iload_n 1, 1) := by decide +kernel
theorem dX7_unitsInJars_16 : decode cX7_unitsInJars 16 = .ok (.aload_n 0, 1) := by decide +kernel
theorem dX7_unitsInJars_17 : decode cX7_unitsInJars 17 = .ok (.getfield 28, 3) := by decide +kernel
theorem dX7_unitsInJars_20 : decode cX7_unitsInJars 20 = .ok (.getfield 143, 3) := by decide +kernel
theorem dX7_unitsInJars_23 : decode cX7_unitsInJars 23 = .ok (.iload_n 2, 1) := by decide +kernel
theorem dX7_unitsInJars_24 : decode cX7_unitsInJars 24 = .ok (.iaload, 1) := by decide +kernel
theorem dX7_unitsInJars_25 : decode cX7_unitsInJars 25 = .ok (.invokestatic 146, 3) := by decide +kernel
theorem dX7_unitsInJars_28 : decode cX7_unitsInJars 28 = .ok (.iadd, 1) := by decide +kernel
theorem dX7_unitsInJars_29 : decode cX7_unitsInJars 29 = .ok (.istore_n 1, 1) := by decide +kernel
theorem dX7_unitsInJars_30 : decode cX7_unitsInJars 30 = .ok (.iinc 2 1, 3) := by decide +kernel
theorem dX7_unitsInJars_33 : decode cX7_unitsInJars 33 = .ok (.goto (-29), 3) := by decide +kernel
theorem dX7_unitsInJars_36 : decode cX7_unitsInJars 36 = .ok (.iload_n 1, 1) := by decide +kernel
theorem dX7_unitsInJars_37 : decode cX7_unitsInJars 37 = .ok (.ireturn, 1) := by decide +kernel
theorem dX7_isMix_0 : decode cX7_isMix 0 = .ok (.iload_n 0, 1) := by decide +kernel
theorem dX7_isMix_1 : decode cX7_isMix 1 = .ok (.ifCond .lt 14, 3) := by decide +kernel
theorem dX7_isMix_4 : decode cX7_isMix 4 = .ok (.iload_n 0, 1) := by decide +kernel
theorem dX7_isMix_5 : decode cX7_isMix 5 = .ok (.sipush 6561, 3) := by decide +kernel
theorem dX7_isMix_8 : decode cX7_isMix 8 = .ok (.if_icmp .ge 7, 3) := by decide +kernel
theorem dX7_isMix_11 : decode cX7_isMix 11 = .ok (.iconst 1, 1) := by decide +kernel
theorem dX7_isMix_12 : decode cX7_isMix 12 = .ok (.goto 4, 3) := by decide +kernel
theorem dX7_isMix_15 : decode cX7_isMix 15 = .ok (.iconst 0, 1) := by decide +kernel
theorem dX7_isMix_16 : decode cX7_isMix 16 = .ok (.ireturn, 1) := by decide +kernel
theorem dX7_unitsOf_0 : decode cX7_unitsOf 0 = .ok (.iconst 0, 1) := by decide +kernel
theorem dX7_unitsOf_1 : decode cX7_unitsOf 1 = .ok (.istore_n 1, 1) := by decide +kernel
theorem dX7_unitsOf_2 : decode cX7_unitsOf 2 = .ok (.iconst 0, 1) := by decide +kernel
theorem dX7_unitsOf_3 : decode cX7_unitsOf 3 = .ok (.istore_n 2, 1) := by decide +kernel
theorem dX7_unitsOf_4 : decode cX7_unitsOf 4 = .ok (.iload_n 2, 1) := by decide +kernel
theorem dX7_unitsOf_5 : decode cX7_unitsOf 5 = .ok (.bipush 8, 2) := by decide +kernel
theorem dX7_unitsOf_7 : decode cX7_unitsOf 7 = .ok (.if_icmp .ge 21, 3) := by decide +kernel
theorem dX7_unitsOf_10 : decode cX7_unitsOf 10 = .ok (.iload_n 1, 1) := by decide +kernel
theorem dX7_unitsOf_11 : decode cX7_unitsOf 11 = .ok (.iload_n 0, 1) := by decide +kernel
theorem dX7_unitsOf_12 : decode cX7_unitsOf 12 = .ok (.getstatic 206, 3) := by decide +kernel
theorem dX7_unitsOf_15 : decode cX7_unitsOf 15 = .ok (.iload_n 2, 1) := by decide +kernel
theorem dX7_unitsOf_16 : decode cX7_unitsOf 16 = .ok (.iaload, 1) := by decide +kernel
theorem dX7_unitsOf_17 : decode cX7_unitsOf 17 = .ok (.idiv, 1) := by decide +kernel
theorem dX7_unitsOf_18 : decode cX7_unitsOf 18 = .ok (.iconst 3, 1) := by decide +kernel
theorem dX7_unitsOf_19 : decode cX7_unitsOf 19 = .ok (.irem, 1) := by decide +kernel
theorem dX7_unitsOf_20 : decode cX7_unitsOf 20 = .ok (.iadd, 1) := by decide +kernel
theorem dX7_unitsOf_21 : decode cX7_unitsOf 21 = .ok (.istore_n 1, 1) := by decide +kernel
theorem dX7_unitsOf_22 : decode cX7_unitsOf 22 = .ok (.iinc 2 1, 3) := by decide +kernel
theorem dX7_unitsOf_25 : decode cX7_unitsOf 25 = .ok (.goto (-21), 3) := by decide +kernel
theorem dX7_unitsOf_28 : decode cX7_unitsOf 28 = .ok (.iload_n 1, 1) := by decide +kernel
theorem dX7_unitsOf_29 : decode cX7_unitsOf 29 = .ok (.ireturn, 1) := by decide +kernel
theorem dX7_costOf_0 : decode cX7_costOf 0 = .ok (.iconst 0, 1) := by decide +kernel
theorem dX7_costOf_1 : decode cX7_costOf 1 = .ok (.istore_n 2, 1) := by decide +kernel
theorem dX7_costOf_2 : decode cX7_costOf 2 = .ok (.iconst 0, 1) := by decide +kernel
theorem dX7_costOf_3 : decode cX7_costOf 3 = .ok (.istore_n 3, 1) := by decide +kernel
theorem dX7_costOf_4 : decode cX7_costOf 4 = .ok (.iload_n 3, 1) := by decide +kernel
theorem dX7_costOf_5 : decode cX7_costOf 5 = .ok (.bipush 8, 2) := by decide +kernel
theorem dX7_costOf_7 : decode cX7_costOf 7 = .ok (.if_icmp .ge 25, 3) := by decide +kernel
theorem dX7_costOf_10 : decode cX7_costOf 10 = .ok (.iload_n 2, 1) := by decide +kernel
theorem dX7_costOf_11 : decode cX7_costOf 11 = .ok (.iload_n 0, 1) := by decide +kernel
theorem dX7_costOf_12 : decode cX7_costOf 12 = .ok (.getstatic 206, 3) := by decide +kernel
theorem dX7_costOf_15 : decode cX7_costOf 15 = .ok (.iload_n 3, 1) := by decide +kernel
theorem dX7_costOf_16 : decode cX7_costOf 16 = .ok (.iaload, 1) := by decide +kernel
theorem dX7_costOf_17 : decode cX7_costOf 17 = .ok (.idiv, 1) := by decide +kernel
theorem dX7_costOf_18 : decode cX7_costOf 18 = .ok (.iconst 3, 1) := by decide +kernel
theorem dX7_costOf_19 : decode cX7_costOf 19 = .ok (.irem, 1) := by decide +kernel
theorem dX7_costOf_20 : decode cX7_costOf 20 = .ok (.aload_n 1, 1) := by decide +kernel
theorem dX7_costOf_21 : decode cX7_costOf 21 = .ok (.iload_n 3, 1) := by decide +kernel
theorem dX7_costOf_22 : decode cX7_costOf 22 = .ok (.iaload, 1) := by decide +kernel
theorem dX7_costOf_23 : decode cX7_costOf 23 = .ok (.imul, 1) := by decide +kernel
theorem dX7_costOf_24 : decode cX7_costOf 24 = .ok (.iadd, 1) := by decide +kernel
theorem dX7_costOf_25 : decode cX7_costOf 25 = .ok (.istore_n 2, 1) := by decide +kernel
theorem dX7_costOf_26 : decode cX7_costOf 26 = .ok (.iinc 3 1, 3) := by decide +kernel
theorem dX7_costOf_29 : decode cX7_costOf 29 = .ok (.goto (-25), 3) := by decide +kernel
theorem dX7_costOf_32 : decode cX7_costOf 32 = .ok (.iload_n 2, 1) := by decide +kernel
theorem dX7_costOf_33 : decode cX7_costOf 33 = .ok (.ireturn, 1) := by decide +kernel
theorem dJ6_bitCount_0f7a4_0 : decode cJ6_bitCount_0f7a4 0 = .ok (.iload_n 0, 1) := by decide +kernel
theorem dJ6_bitCount_0f7a4_1 : decode cJ6_bitCount_0f7a4 1 = .ok (.iload_n 0, 1) := by decide +kernel
theorem dJ6_bitCount_0f7a4_2 : decode cJ6_bitCount_0f7a4 2 = .ok (.iconst 1, 1) := by decide +kernel
theorem dJ6_bitCount_0f7a4_3 : decode cJ6_bitCount_0f7a4 3 = .ok (.iushr, 1) := by decide +kernel
theorem dJ6_bitCount_0f7a4_4 : decode cJ6_bitCount_0f7a4 4 = .ok (.ldc_w 265, 3) := by decide +kernel
theorem dJ6_bitCount_0f7a4_7 : decode cJ6_bitCount_0f7a4 7 = .ok (.iand, 1) := by decide +kernel
theorem dJ6_bitCount_0f7a4_8 : decode cJ6_bitCount_0f7a4 8 = .ok (.isub, 1) := by decide +kernel
theorem dJ6_bitCount_0f7a4_9 : decode cJ6_bitCount_0f7a4 9 = .ok (.istore_n 0, 1) := by decide +kernel
theorem dJ6_bitCount_0f7a4_10 : decode cJ6_bitCount_0f7a4 10 = .ok (.iload_n 0, 1) := by decide +kernel
theorem dJ6_bitCount_0f7a4_11 : decode cJ6_bitCount_0f7a4 11 = .ok (.ldc_w 266, 3) := by decide +kernel
theorem dJ6_bitCount_0f7a4_14 : decode cJ6_bitCount_0f7a4 14 = .ok (.iand, 1) := by decide +kernel
theorem dJ6_bitCount_0f7a4_15 : decode cJ6_bitCount_0f7a4 15 = .ok (.iload_n 0, 1) := by decide +kernel
theorem dJ6_bitCount_0f7a4_16 : decode cJ6_bitCount_0f7a4 16 = .ok (.iconst 2, 1) := by decide +kernel
theorem dJ6_bitCount_0f7a4_17 : decode cJ6_bitCount_0f7a4 17 = .ok (.iushr, 1) := by decide +kernel
theorem dJ6_bitCount_0f7a4_18 : decode cJ6_bitCount_0f7a4 18 = .ok (.ldc_w 266, 3) := by decide +kernel
theorem dJ6_bitCount_0f7a4_21 : decode cJ6_bitCount_0f7a4 21 = .ok (.iand, 1) := by decide +kernel
theorem dJ6_bitCount_0f7a4_22 : decode cJ6_bitCount_0f7a4 22 = .ok (.iadd, 1) := by decide +kernel
theorem dJ6_bitCount_0f7a4_23 : decode cJ6_bitCount_0f7a4 23 = .ok (.istore_n 0, 1) := by decide +kernel
theorem dJ6_bitCount_0f7a4_24 : decode cJ6_bitCount_0f7a4 24 = .ok (.iload_n 0, 1) := by decide +kernel
theorem dJ6_bitCount_0f7a4_25 : decode cJ6_bitCount_0f7a4 25 = .ok (.iload_n 0, 1) := by decide +kernel
theorem dJ6_bitCount_0f7a4_26 : decode cJ6_bitCount_0f7a4 26 = .ok (.iconst 4, 1) := by decide +kernel
theorem dJ6_bitCount_0f7a4_27 : decode cJ6_bitCount_0f7a4 27 = .ok (.iushr, 1) := by decide +kernel
theorem dJ6_bitCount_0f7a4_28 : decode cJ6_bitCount_0f7a4 28 = .ok (.iadd, 1) := by decide +kernel
theorem dJ6_bitCount_0f7a4_29 : decode cJ6_bitCount_0f7a4 29 = .ok (.ldc_w 267, 3) := by decide +kernel
theorem dJ6_bitCount_0f7a4_32 : decode cJ6_bitCount_0f7a4 32 = .ok (.iand, 1) := by decide +kernel
theorem dJ6_bitCount_0f7a4_33 : decode cJ6_bitCount_0f7a4 33 = .ok (.istore_n 0, 1) := by decide +kernel
theorem dJ6_bitCount_0f7a4_34 : decode cJ6_bitCount_0f7a4 34 = .ok (.iload_n 0, 1) := by decide +kernel
theorem dJ6_bitCount_0f7a4_35 : decode cJ6_bitCount_0f7a4 35 = .ok (.iload_n 0, 1) := by decide +kernel
theorem dJ6_bitCount_0f7a4_36 : decode cJ6_bitCount_0f7a4 36 = .ok (.bipush 8, 2) := by decide +kernel
theorem dJ6_bitCount_0f7a4_38 : decode cJ6_bitCount_0f7a4 38 = .ok (.iushr, 1) := by decide +kernel
theorem dJ6_bitCount_0f7a4_39 : decode cJ6_bitCount_0f7a4 39 = .ok (.iadd, 1) := by decide +kernel
theorem dJ6_bitCount_0f7a4_40 : decode cJ6_bitCount_0f7a4 40 = .ok (.istore_n 0, 1) := by decide +kernel
theorem dJ6_bitCount_0f7a4_41 : decode cJ6_bitCount_0f7a4 41 = .ok (.iload_n 0, 1) := by decide +kernel
theorem dJ6_bitCount_0f7a4_42 : decode cJ6_bitCount_0f7a4 42 = .ok (.iload_n 0, 1) := by decide +kernel
theorem dJ6_bitCount_0f7a4_43 : decode cJ6_bitCount_0f7a4 43 = .ok (.bipush 16, 2) := by decide +kernel
theorem dJ6_bitCount_0f7a4_45 : decode cJ6_bitCount_0f7a4 45 = .ok (.iushr, 1) := by decide +kernel
theorem dJ6_bitCount_0f7a4_46 : decode cJ6_bitCount_0f7a4 46 = .ok (.iadd, 1) := by decide +kernel
theorem dJ6_bitCount_0f7a4_47 : decode cJ6_bitCount_0f7a4 47 = .ok (.istore_n 0, 1) := by decide +kernel
theorem dJ6_bitCount_0f7a4_48 : decode cJ6_bitCount_0f7a4 48 = .ok (.iload_n 0, 1) := by decide +kernel
theorem dJ6_bitCount_0f7a4_49 : decode cJ6_bitCount_0f7a4 49 = .ok (.bipush 63, 2) := by decide +kernel
theorem dJ6_bitCount_0f7a4_51 : decode cJ6_bitCount_0f7a4 51 = .ok (.iand, 1) := by decide +kernel
theorem dJ6_bitCount_0f7a4_52 : decode cJ6_bitCount_0f7a4 52 = .ok (.ireturn, 1) := by decide +kernel
theorem dJ9_min_7cf53_0 : decode cJ9_min_7cf53 0 = .ok (.iload_n 0, 1) := by decide +kernel
theorem dJ9_min_7cf53_1 : decode cJ9_min_7cf53 1 = .ok (.iload_n 1, 1) := by decide +kernel
theorem dJ9_min_7cf53_2 : decode cJ9_min_7cf53 2 = .ok (.if_icmp .gt 7, 3) := by decide +kernel
theorem dJ9_min_7cf53_5 : decode cJ9_min_7cf53 5 = .ok (.iload_n 0, 1) := by decide +kernel
theorem dJ9_min_7cf53_6 : decode cJ9_min_7cf53 6 = .ok (.goto 4, 3) := by decide +kernel
theorem dJ9_min_7cf53_9 : decode cJ9_min_7cf53 9 = .ok (.iload_n 1, 1) := by decide +kernel
theorem dJ9_min_7cf53_10 : decode cJ9_min_7cf53 10 = .ok (.ireturn, 1) := by decide +kernel
theorem dJ7_fill_53178_0 : decode cJ7_fill_53178 0 = .ok (.iconst 0, 1) := by decide +kernel
theorem dJ7_fill_53178_1 : decode cJ7_fill_53178 1 = .ok (.istore_n 2, 1) := by decide +kernel
theorem dJ7_fill_53178_2 : decode cJ7_fill_53178 2 = .ok (.aload_n 0, 1) := by decide +kernel
theorem dJ7_fill_53178_3 : decode cJ7_fill_53178 3 = .ok (.arraylength, 1) := by decide +kernel
theorem dJ7_fill_53178_4 : decode cJ7_fill_53178 4 = .ok (.istore_n 3, 1) := by decide +kernel
theorem dJ7_fill_53178_5 : decode cJ7_fill_53178 5 = .ok (.iload_n 2, 1) := by decide +kernel
theorem dJ7_fill_53178_6 : decode cJ7_fill_53178 6 = .ok (.iload_n 3, 1) := by decide +kernel
theorem dJ7_fill_53178_7 : decode cJ7_fill_53178 7 = .ok (.if_icmp .ge 13, 3) := by decide +kernel
theorem dJ7_fill_53178_10 : decode cJ7_fill_53178 10 = .ok (.aload_n 0, 1) := by decide +kernel
theorem dJ7_fill_53178_11 : decode cJ7_fill_53178 11 = .ok (.iload_n 2, 1) := by decide +kernel
theorem dJ7_fill_53178_12 : decode cJ7_fill_53178 12 = .ok (.iload_n 1, 1) := by decide +kernel
theorem dJ7_fill_53178_13 : decode cJ7_fill_53178 13 = .ok (.iastore, 1) := by decide +kernel
theorem dJ7_fill_53178_14 : decode cJ7_fill_53178 14 = .ok (.iinc 2 1, 3) := by decide +kernel
theorem dJ7_fill_53178_17 : decode cJ7_fill_53178 17 = .ok (.goto (-12), 3) := by decide +kernel
theorem dJ7_fill_53178_20 : decode cJ7_fill_53178 20 = .ok (.return_, 1) := by decide +kernel
