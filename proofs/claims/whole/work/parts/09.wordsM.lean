section TS
variable {sh : List Descr} {l : Launch} {D : va_G} {ad : Nat → Nat} {ca : Nat → ClassId} {Y : MR} {pc : Nat} {L : List (Option PV)} {st : List PV} {μ μ' : Mem} {r : Option PV}
theorem G.tsCase {dflt lo hi x off : Int} {offs : Array Int} {len : Nat} (v : Int) (tgt : Nat) (d : decode Y.2.1 pc = .ok (.tableswitch dflt lo hi offs, len)) (h1 : ¬ v < lo) (h2 : ¬ hi < v) (ho : offs[(v - lo).toNat]? = some off) (ht : (pc : Int) + off = (tgt : Int)) (kt : x = v → G sh l D ad ca Y tgt L st μ r μ') (kf : ¬ x = v → G sh l D ad ca Y pc L (.inl x :: st) μ r μ') : G sh l D ad ca Y pc L (.inl x :: st) μ r μ' := by
  by_cases c : x = v
  · exact G.tsIn v tgt d c h1 h2 ho ht (kt c)
  · exact kf c
end TS
theorem fit_z {x : Int} (h : x = 0 ∨ x = 1) : fits .boolean (.int (Int32.ofInt x)) = true := by
  rcases h with rfl | rfl <;> rfl
theorem bnd_mp {α β : Type} {a : α} {f : α → Option β} {b : Option β} (h : bnd a f = b) : f a = b := h
theorem ite_nn {α : Type} {c : Prop} {hd : Decidable c} {b : α} {y : Option α} (h : @ite _ c hd none y = some b) : ¬ c ∧ y = some b := by
  by_cases hc : c
  · rw [if_pos hc] at h; cases h
  · rw [if_neg hc] at h; exact ⟨hc, h⟩
theorem ite_yn {α : Type} {c : Prop} {hd : Decidable c} {b : α} {y : Option α} (h : @ite _ c hd y none = some b) : c ∧ y = some b := by
  by_cases hc : c
  · rw [if_pos hc] at h; exact ⟨hc, h⟩
  · rw [if_neg hc] at h; cases h
theorem ki_m1 : inR (-1) := by decide
theorem ki_0 : inR (0) := by decide
theorem ki_1 : inR (1) := by decide
theorem ki_2 : inR (2) := by decide
theorem ki_3 : inR (3) := by decide
theorem ki_4 : inR (4) := by decide
theorem ki_5 : inR (5) := by decide
theorem kb_m100 : inR (-100) ∧ (Int8.ofInt (-100)).toInt32 = Int32.ofInt (-100) := by decide
theorem kb_m5 : inR (-5) ∧ (Int8.ofInt (-5)).toInt32 = Int32.ofInt (-5) := by decide
theorem kb_m3 : inR (-3) ∧ (Int8.ofInt (-3)).toInt32 = Int32.ofInt (-3) := by decide
theorem kb_m2 : inR (-2) ∧ (Int8.ofInt (-2)).toInt32 = Int32.ofInt (-2) := by decide
theorem kb_6 : inR (6) ∧ (Int8.ofInt (6)).toInt32 = Int32.ofInt (6) := by decide
theorem kb_7 : inR (7) ∧ (Int8.ofInt (7)).toInt32 = Int32.ofInt (7) := by decide
theorem kb_8 : inR (8) ∧ (Int8.ofInt (8)).toInt32 = Int32.ofInt (8) := by decide
theorem kb_9 : inR (9) ∧ (Int8.ofInt (9)).toInt32 = Int32.ofInt (9) := by decide
theorem kb_10 : inR (10) ∧ (Int8.ofInt (10)).toInt32 = Int32.ofInt (10) := by decide
theorem kb_12 : inR (12) ∧ (Int8.ofInt (12)).toInt32 = Int32.ofInt (12) := by decide
theorem kb_33 : inR (33) ∧ (Int8.ofInt (33)).toInt32 = Int32.ofInt (33) := by decide
theorem kb_34 : inR (34) ∧ (Int8.ofInt (34)).toInt32 = Int32.ofInt (34) := by decide
theorem kb_35 : inR (35) ∧ (Int8.ofInt (35)).toInt32 = Int32.ofInt (35) := by decide
theorem kb_43 : inR (43) ∧ (Int8.ofInt (43)).toInt32 = Int32.ofInt (43) := by decide
theorem kb_44 : inR (44) ∧ (Int8.ofInt (44)).toInt32 = Int32.ofInt (44) := by decide
theorem kb_48 : inR (48) ∧ (Int8.ofInt (48)).toInt32 = Int32.ofInt (48) := by decide
theorem kb_49 : inR (49) ∧ (Int8.ofInt (49)).toInt32 = Int32.ofInt (49) := by decide
theorem kb_52 : inR (52) ∧ (Int8.ofInt (52)).toInt32 = Int32.ofInt (52) := by decide
theorem kb_53 : inR (53) ∧ (Int8.ofInt (53)).toInt32 = Int32.ofInt (53) := by decide
theorem kb_54 : inR (54) ∧ (Int8.ofInt (54)).toInt32 = Int32.ofInt (54) := by decide
theorem kb_55 : inR (55) ∧ (Int8.ofInt (55)).toInt32 = Int32.ofInt (55) := by decide
theorem kb_56 : inR (56) ∧ (Int8.ofInt (56)).toInt32 = Int32.ofInt (56) := by decide
theorem kb_57 : inR (57) ∧ (Int8.ofInt (57)).toInt32 = Int32.ofInt (57) := by decide
theorem kb_58 : inR (58) ∧ (Int8.ofInt (58)).toInt32 = Int32.ofInt (58) := by decide
theorem kb_59 : inR (59) ∧ (Int8.ofInt (59)).toInt32 = Int32.ofInt (59) := by decide
theorem kb_60 : inR (60) ∧ (Int8.ofInt (60)).toInt32 = Int32.ofInt (60) := by decide
theorem kb_61 : inR (61) ∧ (Int8.ofInt (61)).toInt32 = Int32.ofInt (61) := by decide
theorem kb_62 : inR (62) ∧ (Int8.ofInt (62)).toInt32 = Int32.ofInt (62) := by decide
theorem kb_97 : inR (97) ∧ (Int8.ofInt (97)).toInt32 = Int32.ofInt (97) := by decide
theorem kb_99 : inR (99) ∧ (Int8.ofInt (99)).toInt32 = Int32.ofInt (99) := by decide
theorem kb_100 : inR (100) ∧ (Int8.ofInt (100)).toInt32 = Int32.ofInt (100) := by decide
theorem kb_101 : inR (101) ∧ (Int8.ofInt (101)).toInt32 = Int32.ofInt (101) := by decide
theorem kb_104 : inR (104) ∧ (Int8.ofInt (104)).toInt32 = Int32.ofInt (104) := by decide
theorem kb_106 : inR (106) ∧ (Int8.ofInt (106)).toInt32 = Int32.ofInt (106) := by decide
theorem kb_108 : inR (108) ∧ (Int8.ofInt (108)).toInt32 = Int32.ofInt (108) := by decide
theorem kb_109 : inR (109) ∧ (Int8.ofInt (109)).toInt32 = Int32.ofInt (109) := by decide
theorem kb_110 : inR (110) ∧ (Int8.ofInt (110)).toInt32 = Int32.ofInt (110) := by decide
theorem kb_111 : inR (111) ∧ (Int8.ofInt (111)).toInt32 = Int32.ofInt (111) := by decide
theorem kb_112 : inR (112) ∧ (Int8.ofInt (112)).toInt32 = Int32.ofInt (112) := by decide
theorem kb_114 : inR (114) ∧ (Int8.ofInt (114)).toInt32 = Int32.ofInt (114) := by decide
theorem kb_116 : inR (116) ∧ (Int8.ofInt (116)).toInt32 = Int32.ofInt (116) := by decide
theorem kb_117 : inR (117) ∧ (Int8.ofInt (117)).toInt32 = Int32.ofInt (117) := by decide
theorem kb_119 : inR (119) ∧ (Int8.ofInt (119)).toInt32 = Int32.ofInt (119) := by decide
theorem ks_180 : inR (180) ∧ (Int16.ofInt (180)).toInt32 = Int32.ofInt (180) := by decide
theorem ks_200 : inR (200) ∧ (Int16.ofInt (200)).toInt32 = Int32.ofInt (200) := by decide
theorem ks_6560 : inR (6560) ∧ (Int16.ofInt (6560)).toInt32 = Int32.ofInt (6560) := by decide
theorem ks_6561 : inR (6561) ∧ (Int16.ofInt (6561)).toInt32 = Int32.ofInt (6561) := by decide
theorem q29 : Cond.selects RX8 yX8_putAside yX8_putAside ∈ WS := mw 29 (by decide +kernel) rfl
theorem q30 : Cond.selects RX8 yX8_priceOf yX8_priceOf ∈ WS := mw 30 (by decide +kernel) rfl
theorem q31 : Cond.selects RX8 yX8_comes yX8_comes ∈ WS := mw 31 (by decide +kernel) rfl
theorem q32 : Cond.selects RX8 yX8_act yX8_act ∈ WS := mw 32 (by decide +kernel) rfl
theorem q33 : Cond.selects RX8 yX8_pours yX8_pours ∈ WS := mw 33 (by decide +kernel) rfl
theorem q34 : Cond.selects RX8 yX8_find yX8_find ∈ WS := mw 34 (by decide +kernel) rfl
theorem q35 : Cond.selects RX8 yX8_numberOf yX8_numberOf ∈ WS := mw 35 (by decide +kernel) rfl
theorem q36 : Cond.selects RX8 yX8_mixIn yX8_mixIn ∈ WS := mw 36 (by decide +kernel) rfl
theorem q37 : Cond.selects RX8 yX8_buysMore yX8_buysMore ∈ WS := mw 37 (by decide +kernel) rfl
theorem q38 : Cond.selects RX8 yX8_dropJar yX8_dropJar ∈ WS := mw 38 (by decide +kernel) rfl
theorem q39 : Cond.selects RX8 yX8_rules yX8_rules ∈ WS := mw 39 (by decide +kernel) rfl
theorem q40 : Cond.selects RX8 yX8_strength yX8_strength ∈ WS := mw 40 (by decide +kernel) rfl
theorem q41 : Cond.selects RX8 yX8_lay yX8_lay ∈ WS := mw 41 (by decide +kernel) rfl
theorem q42 : Cond.selects RX8 yX8_layBland yX8_layBland ∈ WS := mw 42 (by decide +kernel) rfl
theorem q43 : Cond.selects RX8 yX8_drops yX8_drops ∈ WS := mw 43 (by decide +kernel) rfl
theorem q44 : Cond.selects RX8 yX8_wants yX8_wants ∈ WS := mw 44 (by decide +kernel) rfl
theorem q45 : Cond.selects RX8 yX8_serves yX8_serves ∈ WS := mw 45 (by decide +kernel) rfl
theorem q46 : Cond.selects RX8 yX8_taste yX8_taste ∈ WS := mw 46 (by decide +kernel) rfl
theorem q47 : Cond.selects RX8 yX8_go yX8_go ∈ WS := mw 47 (by decide +kernel) rfl
theorem q48 : Cond.selects RX8 yX8_order yX8_order ∈ WS := mw 48 (by decide +kernel) rfl
theorem q49 : Cond.selects RX8 yX8_isNext yX8_isNext ∈ WS := mw 49 (by decide +kernel) rfl
theorem q50 : Cond.selects RX8 yX8_signs yX8_signs ∈ WS := mw 50 (by decide +kernel) rfl
theorem q51 : Cond.selects RX8 yX8_sign yX8_sign ∈ WS := mw 51 (by decide +kernel) rfl
theorem q52 : Cond.selects RX8 yX8_mix yX8_mix ∈ WS := mw 52 (by decide +kernel) rfl
theorem q53 : Cond.selects RX8 yX8_number yX8_number ∈ WS := mw 53 (by decide +kernel) rfl
theorem q54 : Cond.selects RX8 yX8_cheapest yX8_cheapest ∈ WS := mw 54 (by decide +kernel) rfl
theorem q55 : Cond.selects RX8 yX8_told yX8_told ∈ WS := mw 55 (by decide +kernel) rfl
theorem q56 : Cond.selects RX8 yX8_jarsLike yX8_jarsLike ∈ WS := mw 56 (by decide +kernel) rfl
theorem q57 : Cond.selects RX8 yX8_nextShelf yX8_nextShelf ∈ WS := mw 57 (by decide +kernel) rfl
theorem q58 : Cond.selects RX8 yX8_shelves yX8_shelves ∈ WS := mw 58 (by decide +kernel) rfl
theorem q59 : Cond.selects RX8 yX8_unitsInJars yX8_unitsInJars ∈ WS := mw 59 (by decide +kernel) rfl
theorem q60 : Cond.selects RX8 yX8_laySums yX8_laySums ∈ WS := mw 60 (by decide +kernel) rfl
theorem q70 : Cond.initialized RX8 ∈ WS := mw 70 (by decide +kernel) rfl
theorem q838 : Cond.fieldLink RX8 7 "SpiceThreesModel" "s" "[I" ∈ WS := mw 838 (by decide +kernel) rfl
theorem q839 : Cond.fieldLink RX8 13 "SpiceThreesModel" "aside" "[I" ∈ WS := mw 839 (by decide +kernel) rfl
theorem q840 : Cond.fieldLink RX8 16 "SpiceThreesModel" "before" "[I" ∈ WS := mw 840 (by decide +kernel) rfl
theorem q841 : Cond.fieldLink RX8 49 "SpiceThreesModel" "known" "I" ∈ WS := mw 841 (by decide +kernel) rfl
theorem q842 : Cond.fieldLink RX8 19 "SpiceThreesModel" "kept" "[I" ∈ WS := mw 842 (by decide +kernel) rfl
theorem q843 : Cond.fieldLink RX8 166 "SpiceThreesModel" "isKept" "Z" ∈ WS := mw 843 (by decide +kernel) rfl
theorem q844 : Cond.fieldLink RX8 22 "SpiceThreesModel" "text" "[I" ∈ WS := mw 844 (by decide +kernel) rfl
theorem q845 : Cond.fieldLink RX8 124 "SpiceThreesModel" "length" "I" ∈ WS := mw 845 (by decide +kernel) rfl
theorem q846 : Cond.fieldLink RX8 45 "SpiceThreesModel" "isLaid" "Z" ∈ WS := mw 846 (by decide +kernel) rfl
theorem q847 : Cond.fieldLink RX8 61 "SpiceThreesModel" "strength" "I" ∈ WS := mw 847 (by decide +kernel) rfl
theorem q848 : Cond.fieldLink RX8 25 "SpiceThreesModel" "isBland" "[Z" ∈ WS := mw 848 (by decide +kernel) rfl
theorem q849 : Cond.fieldLink RX8 29 "SpiceThreesModel" "tastes" "[I" ∈ WS := mw 849 (by decide +kernel) rfl
theorem q850 : Cond.fieldLink RX8 32 "SpiceThreesModel" "blands" "[I" ∈ WS := mw 850 (by decide +kernel) rfl
theorem q851 : Cond.fieldLink RX8 35 "SpiceThreesModel" "marks" "[Z" ∈ WS := mw 851 (by decide +kernel) rfl
theorem q852 : Cond.fieldLink RX8 127 "SpiceThreesModel" "place" "I" ∈ WS := mw 852 (by decide +kernel) rfl
theorem q853 : Cond.fieldLink RX8 130 "SpiceThreesModel" "isWrong" "Z" ∈ WS := mw 853 (by decide +kernel) rfl
theorem q854 : Cond.fieldLink RX8 136 "SpiceThreesModel" "read" "I" ∈ WS := mw 854 (by decide +kernel) rfl
theorem q855 : Cond.fieldLink RX8 139 "SpiceThreesModel" "readPrice" "I" ∈ WS := mw 855 (by decide +kernel) rfl
theorem q856 : Cond.fieldLink RX8 38 "SpiceThreesModel" "sums" "[I" ∈ WS := mw 856 (by decide +kernel) rfl
theorem q901 : Cond.methodLink RX8 89 yX8_isMix ∈ WS := mw 901 (by decide +kernel) rfl
theorem q902 : Cond.static yX8_isMix ∈ WS := mw 902 (by decide +kernel) rfl
theorem q903 : Cond.code yX8_isMix cX8_isMix 1 (some .boolean) ∈ WS := mw 903 (by decide +kernel) rfl
theorem q904 : Cond.methodLink RX8 41 yX8_in ∈ WS := mw 904 (by decide +kernel) rfl
theorem q905 : Cond.static yX8_in ∈ WS := mw 905 (by decide +kernel) rfl
theorem q906 : Cond.code yX8_in cX8_in 3 (some .boolean) ∈ WS := mw 906 (by decide +kernel) rfl
theorem q907 : Cond.methodLink RX8 93 yX8_putAside ∈ WS := mw 907 (by decide +kernel) rfl
theorem q909 : Cond.instanceMethod yX8_putAside ∈ WS := mw 909 (by decide +kernel) rfl
theorem q910 : Cond.code yX8_putAside cX8_putAside 2 none ∈ WS := mw 910 (by decide +kernel) rfl
theorem q911 : Cond.methodLink RX8 79 yX8_units ∈ WS := mw 911 (by decide +kernel) rfl
theorem q912 : Cond.static yX8_units ∈ WS := mw 912 (by decide +kernel) rfl
theorem q913 : Cond.code yX8_units cX8_units 3 (some .int) ∈ WS := mw 913 (by decide +kernel) rfl
theorem q914 : Cond.methodLink RX8 70 yX8_priceOf ∈ WS := mw 914 (by decide +kernel) rfl
theorem q916 : Cond.instanceMethod yX8_priceOf ∈ WS := mw 916 (by decide +kernel) rfl
theorem q917 : Cond.code yX8_priceOf cX8_priceOf 5 (some .int) ∈ WS := mw 917 (by decide +kernel) rfl
theorem q918 : Cond.methodLink RX8 96 yX8_comes ∈ WS := mw 918 (by decide +kernel) rfl
theorem q920 : Cond.instanceMethod yX8_comes ∈ WS := mw 920 (by decide +kernel) rfl
theorem q921 : Cond.code yX8_comes cX8_comes 5 (some .int) ∈ WS := mw 921 (by decide +kernel) rfl
theorem q922 : Cond.methodLink RX8 100 yX8_act ∈ WS := mw 922 (by decide +kernel) rfl
theorem q924 : Cond.instanceMethod yX8_act ∈ WS := mw 924 (by decide +kernel) rfl
theorem q925 : Cond.code yX8_act cX8_act 3 (some .int) ∈ WS := mw 925 (by decide +kernel) rfl
theorem q930 : Cond.methodLink RX8 103 yX8_pours ∈ WS := mw 930 (by decide +kernel) rfl
theorem q932 : Cond.instanceMethod yX8_pours ∈ WS := mw 932 (by decide +kernel) rfl
theorem q933 : Cond.code yX8_pours cX8_pours 7 (some .int) ∈ WS := mw 933 (by decide +kernel) rfl
theorem q934 : Cond.methodLink RX8 82 yX8_find ∈ WS := mw 934 (by decide +kernel) rfl
theorem q936 : Cond.instanceMethod yX8_find ∈ WS := mw 936 (by decide +kernel) rfl
theorem q937 : Cond.code yX8_find cX8_find 3 (some .int) ∈ WS := mw 937 (by decide +kernel) rfl
theorem q938 : Cond.methodLink RX8 73 yX8_numberOf ∈ WS := mw 938 (by decide +kernel) rfl
theorem q940 : Cond.instanceMethod yX8_numberOf ∈ WS := mw 940 (by decide +kernel) rfl
theorem q941 : Cond.code yX8_numberOf cX8_numberOf 2 (some .int) ∈ WS := mw 941 (by decide +kernel) rfl
theorem q942 : Cond.methodLink RX8 76 yX8_mixIn ∈ WS := mw 942 (by decide +kernel) rfl
theorem q944 : Cond.instanceMethod yX8_mixIn ∈ WS := mw 944 (by decide +kernel) rfl
theorem q945 : Cond.code yX8_mixIn cX8_mixIn 2 (some .int) ∈ WS := mw 945 (by decide +kernel) rfl
theorem q946 : Cond.methodLink RX8 53 yX8_mixed ∈ WS := mw 946 (by decide +kernel) rfl
theorem q947 : Cond.static yX8_mixed ∈ WS := mw 947 (by decide +kernel) rfl
theorem q948 : Cond.code yX8_mixed cX8_mixed 7 (some .int) ∈ WS := mw 948 (by decide +kernel) rfl
theorem q953 : Cond.methodLink RX8 106 yX8_buysMore ∈ WS := mw 953 (by decide +kernel) rfl
theorem q955 : Cond.instanceMethod yX8_buysMore ∈ WS := mw 955 (by decide +kernel) rfl
theorem q956 : Cond.code yX8_buysMore cX8_buysMore 5 (some .int) ∈ WS := mw 956 (by decide +kernel) rfl
theorem q961 : Cond.methodLink RX8 85 yX8_dropJar ∈ WS := mw 961 (by decide +kernel) rfl
theorem q963 : Cond.instanceMethod yX8_dropJar ∈ WS := mw 963 (by decide +kernel) rfl
theorem q964 : Cond.code yX8_dropJar cX8_dropJar 3 none ∈ WS := mw 964 (by decide +kernel) rfl
theorem q969 : Cond.methodLink RX8 109 yX8_rules ∈ WS := mw 969 (by decide +kernel) rfl
theorem q971 : Cond.instanceMethod yX8_rules ∈ WS := mw 971 (by decide +kernel) rfl
theorem q972 : Cond.code yX8_rules cX8_rules 2 (some .int) ∈ WS := mw 972 (by decide +kernel) rfl
theorem q973 : Cond.methodLink RX8 112 yX8_strength ∈ WS := mw 973 (by decide +kernel) rfl
theorem q975 : Cond.instanceMethod yX8_strength ∈ WS := mw 975 (by decide +kernel) rfl
theorem q976 : Cond.code yX8_strength cX8_strength 1 (some .int) ∈ WS := mw 976 (by decide +kernel) rfl
theorem q977 : Cond.methodLink RX8 64 yX8_lay ∈ WS := mw 977 (by decide +kernel) rfl
theorem q979 : Cond.instanceMethod yX8_lay ∈ WS := mw 979 (by decide +kernel) rfl
theorem q980 : Cond.code yX8_lay cX8_lay 5 none ∈ WS := mw 980 (by decide +kernel) rfl
theorem q981 : Cond.methodLink RX8 57 yX8_layBland ∈ WS := mw 981 (by decide +kernel) rfl
theorem q983 : Cond.instanceMethod yX8_layBland ∈ WS := mw 983 (by decide +kernel) rfl
theorem q984 : Cond.code yX8_layBland cX8_layBland 7 (some .int) ∈ WS := mw 984 (by decide +kernel) rfl
theorem q989 : Cond.methodLink RX8 115 yX8_drops ∈ WS := mw 989 (by decide +kernel) rfl
theorem q991 : Cond.instanceMethod yX8_drops ∈ WS := mw 991 (by decide +kernel) rfl
theorem q992 : Cond.code yX8_drops cX8_drops 3 (some .int) ∈ WS := mw 992 (by decide +kernel) rfl
theorem q1001 : Cond.methodLink RX8 118 yX8_wants ∈ WS := mw 1001 (by decide +kernel) rfl
theorem q1003 : Cond.instanceMethod yX8_wants ∈ WS := mw 1003 (by decide +kernel) rfl
theorem q1004 : Cond.code yX8_wants cX8_wants 2 (some .int) ∈ WS := mw 1004 (by decide +kernel) rfl
theorem q1009 : Cond.methodLink RX8 121 yX8_serves ∈ WS := mw 1009 (by decide +kernel) rfl
theorem q1011 : Cond.instanceMethod yX8_serves ∈ WS := mw 1011 (by decide +kernel) rfl
theorem q1012 : Cond.code yX8_serves cX8_serves 5 (some .int) ∈ WS := mw 1012 (by decide +kernel) rfl
theorem q1013 : Cond.methodLink RX8 67 yX8_taste ∈ WS := mw 1013 (by decide +kernel) rfl
theorem q1015 : Cond.instanceMethod yX8_taste ∈ WS := mw 1015 (by decide +kernel) rfl
theorem q1016 : Cond.code yX8_taste cX8_taste 2 (some .int) ∈ WS := mw 1016 (by decide +kernel) rfl
theorem q1029 : Cond.methodLink RX8 163 yX8_go ∈ WS := mw 1029 (by decide +kernel) rfl
theorem q1031 : Cond.instanceMethod yX8_go ∈ WS := mw 1031 (by decide +kernel) rfl
theorem q1032 : Cond.code yX8_go cX8_go 6 (some .int) ∈ WS := mw 1032 (by decide +kernel) rfl
theorem q1033 : Cond.methodLink RX8 159 yX8_order ∈ WS := mw 1033 (by decide +kernel) rfl
theorem q1035 : Cond.instanceMethod yX8_order ∈ WS := mw 1035 (by decide +kernel) rfl
theorem q1036 : Cond.code yX8_order cX8_order 5 (some .int) ∈ WS := mw 1036 (by decide +kernel) rfl
theorem q1037 : Cond.methodLink RX8 142 yX8_isNext ∈ WS := mw 1037 (by decide +kernel) rfl
theorem q1039 : Cond.instanceMethod yX8_isNext ∈ WS := mw 1039 (by decide +kernel) rfl
theorem q1040 : Cond.code yX8_isNext cX8_isNext 3 (some .boolean) ∈ WS := mw 1040 (by decide +kernel) rfl
theorem q1041 : Cond.methodLink RX8 149 yX8_signs ∈ WS := mw 1041 (by decide +kernel) rfl
theorem q1043 : Cond.instanceMethod yX8_signs ∈ WS := mw 1043 (by decide +kernel) rfl
theorem q1044 : Cond.code yX8_signs cX8_signs 10 none ∈ WS := mw 1044 (by decide +kernel) rfl
theorem q1045 : Cond.methodLink RX8 133 yX8_sign ∈ WS := mw 1045 (by decide +kernel) rfl
theorem q1047 : Cond.instanceMethod yX8_sign ∈ WS := mw 1047 (by decide +kernel) rfl
theorem q1048 : Cond.code yX8_sign cX8_sign 4 (some .int) ∈ WS := mw 1048 (by decide +kernel) rfl
theorem q1049 : Cond.methodLink RX8 153 yX8_mix ∈ WS := mw 1049 (by decide +kernel) rfl
theorem q1051 : Cond.instanceMethod yX8_mix ∈ WS := mw 1051 (by decide +kernel) rfl
theorem q1052 : Cond.code yX8_mix cX8_mix 7 (some .int) ∈ WS := mw 1052 (by decide +kernel) rfl
theorem q1053 : Cond.methodLink RX8 146 yX8_power ∈ WS := mw 1053 (by decide +kernel) rfl
theorem q1054 : Cond.static yX8_power ∈ WS := mw 1054 (by decide +kernel) rfl
theorem q1055 : Cond.code yX8_power cX8_power 3 (some .int) ∈ WS := mw 1055 (by decide +kernel) rfl
theorem q1056 : Cond.methodLink RX8 156 yX8_number ∈ WS := mw 1056 (by decide +kernel) rfl
theorem q1058 : Cond.instanceMethod yX8_number ∈ WS := mw 1058 (by decide +kernel) rfl
theorem q1059 : Cond.code yX8_number cX8_number 2 (some .int) ∈ WS := mw 1059 (by decide +kernel) rfl
theorem q1080 : Cond.methodLink RX8 169 yX8_cheapest ∈ WS := mw 1080 (by decide +kernel) rfl
theorem q1082 : Cond.instanceMethod yX8_cheapest ∈ WS := mw 1082 (by decide +kernel) rfl
theorem q1083 : Cond.code yX8_cheapest cX8_cheapest 6 (some .int) ∈ WS := mw 1083 (by decide +kernel) rfl
theorem q1084 : Cond.methodLink RX8 172 yX8_told ∈ WS := mw 1084 (by decide +kernel) rfl
theorem q1086 : Cond.instanceMethod yX8_told ∈ WS := mw 1086 (by decide +kernel) rfl
theorem q1087 : Cond.code yX8_told cX8_told 3 (some .int) ∈ WS := mw 1087 (by decide +kernel) rfl
theorem q1100 : Cond.methodLink RX8 175 yX8_jarsLike ∈ WS := mw 1100 (by decide +kernel) rfl
theorem q1102 : Cond.instanceMethod yX8_jarsLike ∈ WS := mw 1102 (by decide +kernel) rfl
theorem q1103 : Cond.code yX8_jarsLike cX8_jarsLike 4 (some .int) ∈ WS := mw 1103 (by decide +kernel) rfl
theorem q1116 : Cond.methodLink RX8 178 yX8_nextShelf ∈ WS := mw 1116 (by decide +kernel) rfl
theorem q1118 : Cond.instanceMethod yX8_nextShelf ∈ WS := mw 1118 (by decide +kernel) rfl
theorem q1119 : Cond.code yX8_nextShelf cX8_nextShelf 5 (some .int) ∈ WS := mw 1119 (by decide +kernel) rfl
theorem q1128 : Cond.methodLink RX8 181 yX8_shelves ∈ WS := mw 1128 (by decide +kernel) rfl
theorem q1130 : Cond.instanceMethod yX8_shelves ∈ WS := mw 1130 (by decide +kernel) rfl
theorem q1131 : Cond.code yX8_shelves cX8_shelves 3 (some .int) ∈ WS := mw 1131 (by decide +kernel) rfl
theorem q1132 : Cond.methodLink RX8 184 yX8_unitsInJars ∈ WS := mw 1132 (by decide +kernel) rfl
theorem q1134 : Cond.instanceMethod yX8_unitsInJars ∈ WS := mw 1134 (by decide +kernel) rfl
theorem q1135 : Cond.code yX8_unitsInJars cX8_unitsInJars 3 (some .int) ∈ WS := mw 1135 (by decide +kernel) rfl
theorem q1144 : Cond.methodLink RX8 187 yX8_laySums ∈ WS := mw 1144 (by decide +kernel) rfl
theorem q1146 : Cond.instanceMethod yX8_laySums ∈ WS := mw 1146 (by decide +kernel) rfl
theorem q1147 : Cond.code yX8_laySums cX8_laySums 4 (some .int) ∈ WS := mw 1147 (by decide +kernel) rfl
theorem q1148 : Cond.methodLink RX8 190 yX8_size ∈ WS := mw 1148 (by decide +kernel) rfl
theorem q1149 : Cond.static yX8_size ∈ WS := mw 1149 (by decide +kernel) rfl
theorem q1150 : Cond.code yX8_size cX8_size 3 (some .int) ∈ WS := mw 1150 (by decide +kernel) rfl
def YX8_in : MR := (yX8_in, cX8_in, 3, (some .boolean), 0, 0)
def YX8_isMix : MR := (yX8_isMix, cX8_isMix, 1, (some .boolean), 1, 22)
def YX8_mixed : MR := (yX8_mixed, cX8_mixed, 7, (some .int), 0, 0)
def YX8_layBland : MR := (yX8_layBland, cX8_layBland, 7, (some .int), 1, 26)
def YX8_lay : MR := (yX8_lay, cX8_lay, 5, none, 2, 52)
def YX8_taste : MR := (yX8_taste, cX8_taste, 2, (some .int), 3, 76)
def YX8_alike : MR := (yX8_alike, cX8_alike, 5, (some .int), 4, 97)
def YX8_clearText : MR := (yX8_clearText, cX8_clearText, 2, (some .int), 0, 0)
def YX8_mixIn : MR := (yX8_mixIn, cX8_mixIn, 2, (some .int), 0, 0)
def YX8_units : MR := (yX8_units, cX8_units, 3, (some .int), 0, 0)
def YX8_unitsInJars : MR := (yX8_unitsInJars, cX8_unitsInJars, 3, (some .int), 1, 22)
def YX8_nextShelf : MR := (yX8_nextShelf, cX8_nextShelf, 5, (some .int), 4, 97)
def YX8_shelves : MR := (yX8_shelves, cX8_shelves, 3, (some .int), 5, 121)
def YX8_strength : MR := (yX8_strength, cX8_strength, 1, (some .int), 3, 76)
def YX8_power : MR := (yX8_power, cX8_power, 3, (some .int), 0, 0)
def YX8_count : MR := (yX8_count, cX8_count, 2, (some .int), 6, 143)
def YX8_isNext : MR := (yX8_isNext, cX8_isNext, 3, (some .boolean), 1, 22)
def YX8_sign : MR := (yX8_sign, cX8_sign, 4, (some .int), 1, 22)
def YX8_signs : MR := (yX8_signs, cX8_signs, 10, none, 2, 45)
def YX8_mix : MR := (yX8_mix, cX8_mix, 7, (some .int), 2, 45)
def YX8_comes : MR := (yX8_comes, cX8_comes, 5, (some .int), 1, 22)
def YX8_rules : MR := (yX8_rules, cX8_rules, 2, (some .int), 0, 0)
def YX8_wants : MR := (yX8_wants, cX8_wants, 2, (some .int), 0, 0)
def YX8_drops : MR := (yX8_drops, cX8_drops, 3, (some .int), 1, 22)
def YX8_number : MR := (yX8_number, cX8_number, 2, (some .int), 2, 45)
def YX8_numberOf : MR := (yX8_numberOf, cX8_numberOf, 2, (some .int), 0, 0)
def YX8_find : MR := (yX8_find, cX8_find, 3, (some .int), 1, 21)
def YX8_pours : MR := (yX8_pours, cX8_pours, 7, (some .int), 2, 43)
def YX8_priceOf : MR := (yX8_priceOf, cX8_priceOf, 5, (some .int), 0, 0)
def YX8_buysMore : MR := (yX8_buysMore, cX8_buysMore, 5, (some .int), 2, 43)
def YX8_order : MR := (yX8_order, cX8_order, 5, (some .int), 3, 74)
def YX8_go : MR := (yX8_go, cX8_go, 6, (some .int), 4, 98)
def YX8_putAside : MR := (yX8_putAside, cX8_putAside, 2, none, 0, 0)
def YX8_act : MR := (yX8_act, cX8_act, 3, (some .int), 0, 0)
def YX8_doAll : MR := (yX8_doAll, cX8_doAll, 2, (some .int), 5, 123)
def YX8_drop : MR := (yX8_drop, cX8_drop, 2, (some .int), 4, 96)
def YX8_fault : MR := (yX8_fault, cX8_fault, 2, (some .int), 5, 123)
def YX8_laySums : MR := (yX8_laySums, cX8_laySums, 4, (some .int), 1, 26)
def YX8_size : MR := (yX8_size, cX8_size, 3, (some .int), 0, 0)
def YX8_fewest : MR := (yX8_fewest, cX8_fewest, 8, (some .int), 4, 97)
def YX8_ifPoured : MR := (yX8_ifPoured, cX8_ifPoured, 5, (some .int), 4, 97)
def YX8_jar : MR := (yX8_jar, cX8_jar, 2, (some .int), 2, 46)
def YX8_cheapest : MR := (yX8_cheapest, cX8_cheapest, 6, (some .int), 4, 97)
def YX8_told : MR := (yX8_told, cX8_told, 3, (some .int), 5, 122)
def YX8_jarOf : MR := (yX8_jarOf, cX8_jarOf, 5, (some .int), 6, 144)
def YX8_keep : MR := (yX8_keep, cX8_keep, 2, (some .int), 0, 0)
def YX8_makes : MR := (yX8_makes, cX8_makes, 5, (some .int), 3, 76)
def YX8_jarsLike : MR := (yX8_jarsLike, cX8_jarsLike, 4, (some .int), 4, 97)
def YX8_mixOf : MR := (yX8_mixOf, cX8_mixOf, 3, (some .int), 6, 144)
def YX8_more : MR := (yX8_more, cX8_more, 2, (some .int), 3, 67)
def YX8_needless : MR := (yX8_needless, cX8_needless, 4, (some .int), 4, 96)
def YX8_pour : MR := (yX8_pour, cX8_pour, 3, (some .int), 3, 69)
def YX8_price : MR := (yX8_price, cX8_price, 4, (some .int), 1, 22)
def YX8_ranked : MR := (yX8_ranked, cX8_ranked, 2, (some .int), 1, 21)
def YX8_restore : MR := (yX8_restore, cX8_restore, 2, (some .int), 1, 22)
def YX8_rule : MR := (yX8_rule, cX8_rule, 2, (some .int), 4, 96)
def YX8_ruleOf : MR := (yX8_ruleOf, cX8_ruleOf, 2, (some .int), 1, 22)
def YX8_dropJar : MR := (yX8_dropJar, cX8_dropJar, 3, none, 0, 0)
def YX8_serves : MR := (yX8_serves, cX8_serves, 5, (some .int), 4, 97)
def YX8_serve : MR := (yX8_serve, cX8_serve, 1, (some .int), 5, 121)
def YX8_shelf : MR := (yX8_shelf, cX8_shelf, 7, (some .int), 5, 121)
def YX8_throwAway : MR := (yX8_throwAway, cX8_throwAway, 4, (some .int), 2, 43)
def YX8_together : MR := (yX8_together, cX8_together, 3, (some .int), 2, 42)
def YX8_type : MR := (yX8_type, cX8_type, 2, (some .int), 0, 0)
def YX8_undo : MR := (yX8_undo, cX8_undo, 2, (some .int), 0, 0)
def YX8_waiting : MR := (yX8_waiting, cX8_waiting, 2, (some .int), 0, 0)
def YX8_want : MR := (yX8_want, cX8_want, 2, (some .int), 2, 42)
theorem cs_X8_isMix_X8_in : CS YX8_isMix YX8_in 3 := ⟨q70, q906, ⟨by decide +kernel, by decide +kernel, by decide +kernel⟩, by decide⟩
theorem cs_X8_layBland_X8_mixed : CS YX8_layBland YX8_mixed 2 := ⟨q70, q948, ⟨by decide +kernel, by decide +kernel, by decide +kernel⟩, by decide⟩
theorem cs_X8_lay_X8_layBland : CS YX8_lay YX8_layBland 1 := ⟨q70, q984, ⟨by decide +kernel, by decide +kernel, by decide +kernel⟩, by decide⟩
theorem cs_X8_lay_X8_mixed : CS YX8_lay YX8_mixed 2 := ⟨q70, q948, ⟨by decide +kernel, by decide +kernel, by decide +kernel⟩, by decide⟩
theorem cs_X8_taste_X8_lay : CS YX8_taste YX8_lay 0 := ⟨q70, q980, ⟨by decide +kernel, by decide +kernel, by decide +kernel⟩, by decide⟩
theorem cs_X8_alike_X8_isMix : CS YX8_alike YX8_isMix 1 := ⟨q70, q903, ⟨by decide +kernel, by decide +kernel, by decide +kernel⟩, by decide⟩
theorem cs_X8_alike_X8_taste : CS YX8_alike YX8_taste 1 := ⟨q70, q1016, ⟨by decide +kernel, by decide +kernel, by decide +kernel⟩, by decide⟩
theorem cs_X8_alike_X8_mixed : CS YX8_alike YX8_mixed 2 := ⟨q70, q948, ⟨by decide +kernel, by decide +kernel, by decide +kernel⟩, by decide⟩
theorem cs_X8_unitsInJars_X8_mixIn : CS YX8_unitsInJars YX8_mixIn 1 := ⟨q70, q945, ⟨by decide +kernel, by decide +kernel, by decide +kernel⟩, by decide⟩
theorem cs_X8_unitsInJars_X8_units : CS YX8_unitsInJars YX8_units 1 := ⟨q70, q913, ⟨by decide +kernel, by decide +kernel, by decide +kernel⟩, by decide⟩
theorem cs_X8_nextShelf_X8_mixIn : CS YX8_nextShelf YX8_mixIn 1 := ⟨q70, q945, ⟨by decide +kernel, by decide +kernel, by decide +kernel⟩, by decide⟩
theorem cs_X8_nextShelf_X8_taste : CS YX8_nextShelf YX8_taste 1 := ⟨q70, q1016, ⟨by decide +kernel, by decide +kernel, by decide +kernel⟩, by decide⟩
theorem cs_X8_shelves_X8_nextShelf : CS YX8_shelves YX8_nextShelf 1 := ⟨q70, q1119, ⟨by decide +kernel, by decide +kernel, by decide +kernel⟩, by decide⟩
theorem cs_X8_strength_X8_lay : CS YX8_strength YX8_lay 0 := ⟨q70, q980, ⟨by decide +kernel, by decide +kernel, by decide +kernel⟩, by decide⟩
theorem cs_X8_count_X8_strength : CS YX8_count YX8_strength 0 := ⟨q70, q976, ⟨by decide +kernel, by decide +kernel, by decide +kernel⟩, by decide⟩
theorem cs_X8_count_X8_power : CS YX8_count YX8_power 1 := ⟨q70, q1055, ⟨by decide +kernel, by decide +kernel, by decide +kernel⟩, by decide⟩
theorem cs_X8_count_X8_shelves : CS YX8_count YX8_shelves 0 := ⟨q70, q1131, ⟨by decide +kernel, by decide +kernel, by decide +kernel⟩, by decide⟩
theorem cs_X8_count_X8_unitsInJars : CS YX8_count YX8_unitsInJars 0 := ⟨q70, q1135, ⟨by decide +kernel, by decide +kernel, by decide +kernel⟩, by decide⟩
theorem cs_X8_isNext_X8_in : CS YX8_isNext YX8_in 3 := ⟨q70, q906, ⟨by decide +kernel, by decide +kernel, by decide +kernel⟩, by decide⟩
theorem cs_X8_sign_X8_in : CS YX8_sign YX8_in 3 := ⟨q70, q906, ⟨by decide +kernel, by decide +kernel, by decide +kernel⟩, by decide⟩
theorem cs_X8_signs_X8_sign : CS YX8_signs YX8_sign 2 := ⟨q70, q1048, ⟨by decide +kernel, by decide +kernel, by decide +kernel⟩, by decide⟩
theorem cs_X8_mix_X8_sign : CS YX8_mix YX8_sign 2 := ⟨q70, q1048, ⟨by decide +kernel, by decide +kernel, by decide +kernel⟩, by decide⟩
theorem cs_X8_mix_X8_isNext : CS YX8_mix YX8_isNext 2 := ⟨q70, q1040, ⟨by decide +kernel, by decide +kernel, by decide +kernel⟩, by decide⟩
theorem cs_X8_mix_X8_power : CS YX8_mix YX8_power 1 := ⟨q70, q1055, ⟨by decide +kernel, by decide +kernel, by decide +kernel⟩, by decide⟩
theorem cs_X8_mix_X8_mixed : CS YX8_mix YX8_mixed 2 := ⟨q70, q948, ⟨by decide +kernel, by decide +kernel, by decide +kernel⟩, by decide⟩
theorem cs_X8_comes_X8_units : CS YX8_comes YX8_units 1 := ⟨q70, q913, ⟨by decide +kernel, by decide +kernel, by decide +kernel⟩, by decide⟩
theorem cs_X8_drops_X8_in : CS YX8_drops YX8_in 3 := ⟨q70, q906, ⟨by decide +kernel, by decide +kernel, by decide +kernel⟩, by decide⟩
theorem cs_X8_number_X8_sign : CS YX8_number YX8_sign 2 := ⟨q70, q1048, ⟨by decide +kernel, by decide +kernel, by decide +kernel⟩, by decide⟩
theorem cs_X8_number_X8_isNext : CS YX8_number YX8_isNext 2 := ⟨q70, q1040, ⟨by decide +kernel, by decide +kernel, by decide +kernel⟩, by decide⟩
theorem cs_X8_find_X8_numberOf : CS YX8_find YX8_numberOf 1 := ⟨q70, q941, ⟨by decide +kernel, by decide +kernel, by decide +kernel⟩, by decide⟩
theorem cs_X8_pours_X8_find : CS YX8_pours YX8_find 1 := ⟨q70, q937, ⟨by decide +kernel, by decide +kernel, by decide +kernel⟩, by decide⟩
theorem cs_X8_pours_X8_mixIn : CS YX8_pours YX8_mixIn 1 := ⟨q70, q945, ⟨by decide +kernel, by decide +kernel, by decide +kernel⟩, by decide⟩
theorem cs_X8_pours_X8_mixed : CS YX8_pours YX8_mixed 2 := ⟨q70, q948, ⟨by decide +kernel, by decide +kernel, by decide +kernel⟩, by decide⟩
theorem cs_X8_pours_X8_units : CS YX8_pours YX8_units 1 := ⟨q70, q913, ⟨by decide +kernel, by decide +kernel, by decide +kernel⟩, by decide⟩
theorem cs_X8_buysMore_X8_find : CS YX8_buysMore YX8_find 1 := ⟨q70, q937, ⟨by decide +kernel, by decide +kernel, by decide +kernel⟩, by decide⟩
theorem cs_X8_buysMore_X8_mixIn : CS YX8_buysMore YX8_mixIn 1 := ⟨q70, q945, ⟨by decide +kernel, by decide +kernel, by decide +kernel⟩, by decide⟩
theorem cs_X8_buysMore_X8_mixed : CS YX8_buysMore YX8_mixed 2 := ⟨q70, q948, ⟨by decide +kernel, by decide +kernel, by decide +kernel⟩, by decide⟩
theorem cs_X8_buysMore_X8_units : CS YX8_buysMore YX8_units 1 := ⟨q70, q913, ⟨by decide +kernel, by decide +kernel, by decide +kernel⟩, by decide⟩
theorem cs_X8_buysMore_X8_priceOf : CS YX8_buysMore YX8_priceOf 1 := ⟨q70, q917, ⟨by decide +kernel, by decide +kernel, by decide +kernel⟩, by decide⟩
theorem cs_X8_order_X8_isNext : CS YX8_order YX8_isNext 2 := ⟨q70, q1040, ⟨by decide +kernel, by decide +kernel, by decide +kernel⟩, by decide⟩
theorem cs_X8_order_X8_signs : CS YX8_order YX8_signs 4 := ⟨q70, q1044, ⟨by decide +kernel, by decide +kernel, by decide +kernel⟩, by decide⟩
theorem cs_X8_order_X8_number : CS YX8_order YX8_number 0 := ⟨q70, q1059, ⟨by decide +kernel, by decide +kernel, by decide +kernel⟩, by decide⟩
theorem cs_X8_order_X8_buysMore : CS YX8_order YX8_buysMore 1 := ⟨q70, q956, ⟨by decide +kernel, by decide +kernel, by decide +kernel⟩, by decide⟩
theorem cs_X8_order_X8_sign : CS YX8_order YX8_sign 2 := ⟨q70, q1048, ⟨by decide +kernel, by decide +kernel, by decide +kernel⟩, by decide⟩
theorem cs_X8_order_X8_pours : CS YX8_order YX8_pours 2 := ⟨q70, q933, ⟨by decide +kernel, by decide +kernel, by decide +kernel⟩, by decide⟩
theorem cs_X8_order_X8_drops : CS YX8_order YX8_drops 1 := ⟨q70, q992, ⟨by decide +kernel, by decide +kernel, by decide +kernel⟩, by decide⟩
theorem cs_X8_order_X8_mix : CS YX8_order YX8_mix 0 := ⟨q70, q1052, ⟨by decide +kernel, by decide +kernel, by decide +kernel⟩, by decide⟩
theorem cs_X8_order_X8_wants : CS YX8_order YX8_wants 1 := ⟨q70, q1004, ⟨by decide +kernel, by decide +kernel, by decide +kernel⟩, by decide⟩
theorem cs_X8_order_X8_rules : CS YX8_order YX8_rules 1 := ⟨q70, q972, ⟨by decide +kernel, by decide +kernel, by decide +kernel⟩, by decide⟩
theorem cs_X8_order_X8_comes : CS YX8_order YX8_comes 3 := ⟨q70, q921, ⟨by decide +kernel, by decide +kernel, by decide +kernel⟩, by decide⟩
theorem cs_X8_go_X8_order : CS YX8_go YX8_order 1 := ⟨q70, q1036, ⟨by decide +kernel, by decide +kernel, by decide +kernel⟩, by decide⟩
theorem cs_X8_go_X8_sign : CS YX8_go YX8_sign 2 := ⟨q70, q1048, ⟨by decide +kernel, by decide +kernel, by decide +kernel⟩, by decide⟩
theorem cs_X8_doAll_X8_go : CS YX8_doAll YX8_go 1 := ⟨q70, q1032, ⟨by decide +kernel, by decide +kernel, by decide +kernel⟩, by decide⟩
theorem cs_X8_doAll_X8_putAside : CS YX8_doAll YX8_putAside 0 := ⟨q70, q910, ⟨by decide +kernel, by decide +kernel, by decide +kernel⟩, by decide⟩
theorem cs_X8_doAll_X8_act : CS YX8_doAll YX8_act 1 := ⟨q70, q925, ⟨by decide +kernel, by decide +kernel, by decide +kernel⟩, by decide⟩
theorem cs_X8_drop_X8_putAside : CS YX8_drop YX8_putAside 0 := ⟨q70, q910, ⟨by decide +kernel, by decide +kernel, by decide +kernel⟩, by decide⟩
theorem cs_X8_drop_X8_drops : CS YX8_drop YX8_drops 1 := ⟨q70, q992, ⟨by decide +kernel, by decide +kernel, by decide +kernel⟩, by decide⟩
theorem cs_X8_drop_X8_act : CS YX8_drop YX8_act 1 := ⟨q70, q925, ⟨by decide +kernel, by decide +kernel, by decide +kernel⟩, by decide⟩
theorem cs_X8_drop_X8_strength : CS YX8_drop YX8_strength 0 := ⟨q70, q976, ⟨by decide +kernel, by decide +kernel, by decide +kernel⟩, by decide⟩
theorem cs_X8_fault_X8_go : CS YX8_fault YX8_go 1 := ⟨q70, q1032, ⟨by decide +kernel, by decide +kernel, by decide +kernel⟩, by decide⟩
theorem cs_X8_laySums_X8_mixIn : CS YX8_laySums YX8_mixIn 1 := ⟨q70, q945, ⟨by decide +kernel, by decide +kernel, by decide +kernel⟩, by decide⟩
theorem cs_X8_laySums_X8_mixed : CS YX8_laySums YX8_mixed 2 := ⟨q70, q948, ⟨by decide +kernel, by decide +kernel, by decide +kernel⟩, by decide⟩
theorem cs_X8_fewest_X8_isMix : CS YX8_fewest YX8_isMix 1 := ⟨q70, q903, ⟨by decide +kernel, by decide +kernel, by decide +kernel⟩, by decide⟩
theorem cs_X8_fewest_X8_in : CS YX8_fewest YX8_in 3 := ⟨q70, q906, ⟨by decide +kernel, by decide +kernel, by decide +kernel⟩, by decide⟩
theorem cs_X8_fewest_X8_taste : CS YX8_fewest YX8_taste 1 := ⟨q70, q1016, ⟨by decide +kernel, by decide +kernel, by decide +kernel⟩, by decide⟩
theorem cs_X8_fewest_X8_laySums : CS YX8_fewest YX8_laySums 0 := ⟨q70, q1147, ⟨by decide +kernel, by decide +kernel, by decide +kernel⟩, by decide⟩
theorem cs_X8_fewest_X8_size : CS YX8_fewest YX8_size 1 := ⟨q70, q1150, ⟨by decide +kernel, by decide +kernel, by decide +kernel⟩, by decide⟩
theorem cs_X8_ifPoured_X8_find : CS YX8_ifPoured YX8_find 1 := ⟨q70, q937, ⟨by decide +kernel, by decide +kernel, by decide +kernel⟩, by decide⟩
theorem cs_X8_ifPoured_X8_mixIn : CS YX8_ifPoured YX8_mixIn 1 := ⟨q70, q945, ⟨by decide +kernel, by decide +kernel, by decide +kernel⟩, by decide⟩
theorem cs_X8_ifPoured_X8_mixed : CS YX8_ifPoured YX8_mixed 2 := ⟨q70, q948, ⟨by decide +kernel, by decide +kernel, by decide +kernel⟩, by decide⟩
theorem cs_X8_ifPoured_X8_taste : CS YX8_ifPoured YX8_taste 1 := ⟨q70, q1016, ⟨by decide +kernel, by decide +kernel, by decide +kernel⟩, by decide⟩
theorem cs_X8_jar_X8_isMix : CS YX8_jar YX8_isMix 1 := ⟨q70, q903, ⟨by decide +kernel, by decide +kernel, by decide +kernel⟩, by decide⟩
theorem cs_X8_jar_X8_putAside : CS YX8_jar YX8_putAside 0 := ⟨q70, q910, ⟨by decide +kernel, by decide +kernel, by decide +kernel⟩, by decide⟩
theorem cs_X8_jar_X8_units : CS YX8_jar YX8_units 1 := ⟨q70, q913, ⟨by decide +kernel, by decide +kernel, by decide +kernel⟩, by decide⟩
theorem cs_X8_jar_X8_priceOf : CS YX8_jar YX8_priceOf 1 := ⟨q70, q917, ⟨by decide +kernel, by decide +kernel, by decide +kernel⟩, by decide⟩
theorem cs_X8_jar_X8_comes : CS YX8_jar YX8_comes 3 := ⟨q70, q921, ⟨by decide +kernel, by decide +kernel, by decide +kernel⟩, by decide⟩
theorem cs_X8_jar_X8_act : CS YX8_jar YX8_act 1 := ⟨q70, q925, ⟨by decide +kernel, by decide +kernel, by decide +kernel⟩, by decide⟩
theorem cs_X8_cheapest_X8_taste : CS YX8_cheapest YX8_taste 1 := ⟨q70, q1016, ⟨by decide +kernel, by decide +kernel, by decide +kernel⟩, by decide⟩
theorem cs_X8_cheapest_X8_priceOf : CS YX8_cheapest YX8_priceOf 1 := ⟨q70, q917, ⟨by decide +kernel, by decide +kernel, by decide +kernel⟩, by decide⟩
theorem cs_X8_told_X8_units : CS YX8_told YX8_units 1 := ⟨q70, q913, ⟨by decide +kernel, by decide +kernel, by decide +kernel⟩, by decide⟩
theorem cs_X8_told_X8_priceOf : CS YX8_told YX8_priceOf 1 := ⟨q70, q917, ⟨by decide +kernel, by decide +kernel, by decide +kernel⟩, by decide⟩
theorem cs_X8_told_X8_taste : CS YX8_told YX8_taste 1 := ⟨q70, q1016, ⟨by decide +kernel, by decide +kernel, by decide +kernel⟩, by decide⟩
theorem cs_X8_told_X8_cheapest : CS YX8_told YX8_cheapest 1 := ⟨q70, q1083, ⟨by decide +kernel, by decide +kernel, by decide +kernel⟩, by decide⟩
theorem cs_X8_jarOf_X8_find : CS YX8_jarOf YX8_find 1 := ⟨q70, q937, ⟨by decide +kernel, by decide +kernel, by decide +kernel⟩, by decide⟩
theorem cs_X8_jarOf_X8_in : CS YX8_jarOf YX8_in 3 := ⟨q70, q906, ⟨by decide +kernel, by decide +kernel, by decide +kernel⟩, by decide⟩
theorem cs_X8_jarOf_X8_mixIn : CS YX8_jarOf YX8_mixIn 1 := ⟨q70, q945, ⟨by decide +kernel, by decide +kernel, by decide +kernel⟩, by decide⟩
theorem cs_X8_jarOf_X8_told : CS YX8_jarOf YX8_told 2 := ⟨q70, q1087, ⟨by decide +kernel, by decide +kernel, by decide +kernel⟩, by decide⟩
theorem cs_X8_jarOf_X8_cheapest : CS YX8_jarOf YX8_cheapest 1 := ⟨q70, q1083, ⟨by decide +kernel, by decide +kernel, by decide +kernel⟩, by decide⟩
theorem cs_X8_jarOf_X8_priceOf : CS YX8_jarOf YX8_priceOf 1 := ⟨q70, q917, ⟨by decide +kernel, by decide +kernel, by decide +kernel⟩, by decide⟩
theorem cs_X8_makes_X8_lay : CS YX8_makes YX8_lay 0 := ⟨q70, q980, ⟨by decide +kernel, by decide +kernel, by decide +kernel⟩, by decide⟩
theorem cs_X8_makes_X8_laySums : CS YX8_makes YX8_laySums 0 := ⟨q70, q1147, ⟨by decide +kernel, by decide +kernel, by decide +kernel⟩, by decide⟩
theorem cs_X8_jarsLike_X8_mixIn : CS YX8_jarsLike YX8_mixIn 1 := ⟨q70, q945, ⟨by decide +kernel, by decide +kernel, by decide +kernel⟩, by decide⟩
theorem cs_X8_jarsLike_X8_taste : CS YX8_jarsLike YX8_taste 1 := ⟨q70, q1016, ⟨by decide +kernel, by decide +kernel, by decide +kernel⟩, by decide⟩
theorem cs_X8_mixOf_X8_isMix : CS YX8_mixOf YX8_isMix 1 := ⟨q70, q903, ⟨by decide +kernel, by decide +kernel, by decide +kernel⟩, by decide⟩
theorem cs_X8_mixOf_X8_in : CS YX8_mixOf YX8_in 3 := ⟨q70, q906, ⟨by decide +kernel, by decide +kernel, by decide +kernel⟩, by decide⟩
theorem cs_X8_mixOf_X8_told : CS YX8_mixOf YX8_told 2 := ⟨q70, q1087, ⟨by decide +kernel, by decide +kernel, by decide +kernel⟩, by decide⟩
theorem cs_X8_mixOf_X8_jarsLike : CS YX8_mixOf YX8_jarsLike 1 := ⟨q70, q1103, ⟨by decide +kernel, by decide +kernel, by decide +kernel⟩, by decide⟩
theorem cs_X8_mixOf_X8_mixed : CS YX8_mixOf YX8_mixed 2 := ⟨q70, q948, ⟨by decide +kernel, by decide +kernel, by decide +kernel⟩, by decide⟩
theorem cs_X8_more_X8_putAside : CS YX8_more YX8_putAside 0 := ⟨q70, q910, ⟨by decide +kernel, by decide +kernel, by decide +kernel⟩, by decide⟩
theorem cs_X8_more_X8_buysMore : CS YX8_more YX8_buysMore 1 := ⟨q70, q956, ⟨by decide +kernel, by decide +kernel, by decide +kernel⟩, by decide⟩
theorem cs_X8_more_X8_act : CS YX8_more YX8_act 1 := ⟨q70, q925, ⟨by decide +kernel, by decide +kernel, by decide +kernel⟩, by decide⟩
theorem cs_X8_needless_X8_strength : CS YX8_needless YX8_strength 0 := ⟨q70, q976, ⟨by decide +kernel, by decide +kernel, by decide +kernel⟩, by decide⟩
theorem cs_X8_needless_X8_layBland : CS YX8_needless YX8_layBland 1 := ⟨q70, q984, ⟨by decide +kernel, by decide +kernel, by decide +kernel⟩, by decide⟩
theorem cs_X8_pour_X8_putAside : CS YX8_pour YX8_putAside 0 := ⟨q70, q910, ⟨by decide +kernel, by decide +kernel, by decide +kernel⟩, by decide⟩
theorem cs_X8_pour_X8_pours : CS YX8_pour YX8_pours 2 := ⟨q70, q933, ⟨by decide +kernel, by decide +kernel, by decide +kernel⟩, by decide⟩
theorem cs_X8_pour_X8_act : CS YX8_pour YX8_act 1 := ⟨q70, q925, ⟨by decide +kernel, by decide +kernel, by decide +kernel⟩, by decide⟩
theorem cs_X8_price_X8_in : CS YX8_price YX8_in 3 := ⟨q70, q906, ⟨by decide +kernel, by decide +kernel, by decide +kernel⟩, by decide⟩
theorem cs_X8_price_X8_putAside : CS YX8_price YX8_putAside 0 := ⟨q70, q910, ⟨by decide +kernel, by decide +kernel, by decide +kernel⟩, by decide⟩
theorem cs_X8_price_X8_act : CS YX8_price YX8_act 1 := ⟨q70, q925, ⟨by decide +kernel, by decide +kernel, by decide +kernel⟩, by decide⟩
theorem cs_X8_ranked_X8_numberOf : CS YX8_ranked YX8_numberOf 1 := ⟨q70, q941, ⟨by decide +kernel, by decide +kernel, by decide +kernel⟩, by decide⟩
theorem cs_X8_restore_X8_putAside : CS YX8_restore YX8_putAside 0 := ⟨q70, q910, ⟨by decide +kernel, by decide +kernel, by decide +kernel⟩, by decide⟩
theorem cs_X8_restore_X8_act : CS YX8_restore YX8_act 1 := ⟨q70, q925, ⟨by decide +kernel, by decide +kernel, by decide +kernel⟩, by decide⟩
theorem cs_X8_rule_X8_isMix : CS YX8_rule YX8_isMix 1 := ⟨q70, q903, ⟨by decide +kernel, by decide +kernel, by decide +kernel⟩, by decide⟩
theorem cs_X8_rule_X8_putAside : CS YX8_rule YX8_putAside 0 := ⟨q70, q910, ⟨by decide +kernel, by decide +kernel, by decide +kernel⟩, by decide⟩
theorem cs_X8_rule_X8_rules : CS YX8_rule YX8_rules 1 := ⟨q70, q972, ⟨by decide +kernel, by decide +kernel, by decide +kernel⟩, by decide⟩
theorem cs_X8_rule_X8_act : CS YX8_rule YX8_act 1 := ⟨q70, q925, ⟨by decide +kernel, by decide +kernel, by decide +kernel⟩, by decide⟩
theorem cs_X8_rule_X8_strength : CS YX8_rule YX8_strength 0 := ⟨q70, q976, ⟨by decide +kernel, by decide +kernel, by decide +kernel⟩, by decide⟩
theorem cs_X8_ruleOf_X8_in : CS YX8_ruleOf YX8_in 3 := ⟨q70, q906, ⟨by decide +kernel, by decide +kernel, by decide +kernel⟩, by decide⟩
theorem cs_X8_serves_X8_taste : CS YX8_serves YX8_taste 1 := ⟨q70, q1016, ⟨by decide +kernel, by decide +kernel, by decide +kernel⟩, by decide⟩
theorem cs_X8_serves_X8_mixIn : CS YX8_serves YX8_mixIn 1 := ⟨q70, q945, ⟨by decide +kernel, by decide +kernel, by decide +kernel⟩, by decide⟩
theorem cs_X8_serves_X8_priceOf : CS YX8_serves YX8_priceOf 1 := ⟨q70, q917, ⟨by decide +kernel, by decide +kernel, by decide +kernel⟩, by decide⟩
theorem cs_X8_serves_X8_units : CS YX8_serves YX8_units 1 := ⟨q70, q913, ⟨by decide +kernel, by decide +kernel, by decide +kernel⟩, by decide⟩
theorem cs_X8_serves_X8_dropJar : CS YX8_serves YX8_dropJar 1 := ⟨q70, q964, ⟨by decide +kernel, by decide +kernel, by decide +kernel⟩, by decide⟩
theorem cs_X8_serve_X8_lay : CS YX8_serve YX8_lay 0 := ⟨q70, q980, ⟨by decide +kernel, by decide +kernel, by decide +kernel⟩, by decide⟩
theorem cs_X8_serve_X8_putAside : CS YX8_serve YX8_putAside 0 := ⟨q70, q910, ⟨by decide +kernel, by decide +kernel, by decide +kernel⟩, by decide⟩
theorem cs_X8_serve_X8_serves : CS YX8_serve YX8_serves 0 := ⟨q70, q1012, ⟨by decide +kernel, by decide +kernel, by decide +kernel⟩, by decide⟩
theorem cs_X8_serve_X8_act : CS YX8_serve YX8_act 1 := ⟨q70, q925, ⟨by decide +kernel, by decide +kernel, by decide +kernel⟩, by decide⟩
theorem cs_X8_shelf_X8_in : CS YX8_shelf YX8_in 3 := ⟨q70, q906, ⟨by decide +kernel, by decide +kernel, by decide +kernel⟩, by decide⟩
theorem cs_X8_shelf_X8_nextShelf : CS YX8_shelf YX8_nextShelf 1 := ⟨q70, q1119, ⟨by decide +kernel, by decide +kernel, by decide +kernel⟩, by decide⟩
theorem cs_X8_shelf_X8_numberOf : CS YX8_shelf YX8_numberOf 1 := ⟨q70, q941, ⟨by decide +kernel, by decide +kernel, by decide +kernel⟩, by decide⟩
theorem cs_X8_shelf_X8_jarsLike : CS YX8_shelf YX8_jarsLike 1 := ⟨q70, q1103, ⟨by decide +kernel, by decide +kernel, by decide +kernel⟩, by decide⟩
theorem cs_X8_shelf_X8_mixIn : CS YX8_shelf YX8_mixIn 1 := ⟨q70, q945, ⟨by decide +kernel, by decide +kernel, by decide +kernel⟩, by decide⟩
theorem cs_X8_shelf_X8_taste : CS YX8_shelf YX8_taste 1 := ⟨q70, q1016, ⟨by decide +kernel, by decide +kernel, by decide +kernel⟩, by decide⟩
theorem cs_X8_shelf_X8_priceOf : CS YX8_shelf YX8_priceOf 1 := ⟨q70, q917, ⟨by decide +kernel, by decide +kernel, by decide +kernel⟩, by decide⟩
theorem cs_X8_throwAway_X8_find : CS YX8_throwAway YX8_find 1 := ⟨q70, q937, ⟨by decide +kernel, by decide +kernel, by decide +kernel⟩, by decide⟩
theorem cs_X8_throwAway_X8_putAside : CS YX8_throwAway YX8_putAside 0 := ⟨q70, q910, ⟨by decide +kernel, by decide +kernel, by decide +kernel⟩, by decide⟩
theorem cs_X8_throwAway_X8_mixIn : CS YX8_throwAway YX8_mixIn 1 := ⟨q70, q945, ⟨by decide +kernel, by decide +kernel, by decide +kernel⟩, by decide⟩
theorem cs_X8_throwAway_X8_units : CS YX8_throwAway YX8_units 1 := ⟨q70, q913, ⟨by decide +kernel, by decide +kernel, by decide +kernel⟩, by decide⟩
theorem cs_X8_throwAway_X8_dropJar : CS YX8_throwAway YX8_dropJar 1 := ⟨q70, q964, ⟨by decide +kernel, by decide +kernel, by decide +kernel⟩, by decide⟩
theorem cs_X8_throwAway_X8_act : CS YX8_throwAway YX8_act 1 := ⟨q70, q925, ⟨by decide +kernel, by decide +kernel, by decide +kernel⟩, by decide⟩
theorem cs_X8_together_X8_isMix : CS YX8_together YX8_isMix 1 := ⟨q70, q903, ⟨by decide +kernel, by decide +kernel, by decide +kernel⟩, by decide⟩
theorem cs_X8_together_X8_mixed : CS YX8_together YX8_mixed 2 := ⟨q70, q948, ⟨by decide +kernel, by decide +kernel, by decide +kernel⟩, by decide⟩
theorem cs_X8_want_X8_isMix : CS YX8_want YX8_isMix 1 := ⟨q70, q903, ⟨by decide +kernel, by decide +kernel, by decide +kernel⟩, by decide⟩
theorem cs_X8_want_X8_putAside : CS YX8_want YX8_putAside 0 := ⟨q70, q910, ⟨by decide +kernel, by decide +kernel, by decide +kernel⟩, by decide⟩
theorem cs_X8_want_X8_wants : CS YX8_want YX8_wants 1 := ⟨q70, q1004, ⟨by decide +kernel, by decide +kernel, by decide +kernel⟩, by decide⟩
theorem cs_X8_want_X8_act : CS YX8_want YX8_act 1 := ⟨q70, q925, ⟨by decide +kernel, by decide +kernel, by decide +kernel⟩, by decide⟩
