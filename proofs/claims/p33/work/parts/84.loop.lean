/-! the law: its rounds -/
theorem cq20 : Cond.initialized RL ∈ WS := mw 20 (by decide +kernel) rfl
theorem cq21 : Cond.initialized RX7 ∈ WS := mw 21 (by decide +kernel) rfl
theorem cq264 : Cond.methodLink RL 8 yX7_count ∈ WS := mw 264 (by decide +kernel) rfl
theorem cq265 : Cond.instanceMethod yX7_count ∈ WS := mw 265 (by decide +kernel) rfl
theorem cq266 : Cond.selects RX7 yX7_count yX7_count ∈ WS := mw 266 (by decide +kernel) rfl
theorem cq267 : Cond.code yX7_count cX7_count 2 (some .int) ∈ WS := mw 267 (by decide +kernel) rfl
theorem cq336 : Cond.methodLink RL 98 yL_cell ∈ WS := mw 336 (by decide +kernel) rfl
theorem cq337 : Cond.static yL_cell ∈ WS := mw 337 (by decide +kernel) rfl
theorem cq338 : Cond.code yL_cell cL_cell 2 (some .int) ∈ WS := mw 338 (by decide +kernel) rfl
theorem cq339 : Cond.methodLink RL 14 yL_low ∈ WS := mw 339 (by decide +kernel) rfl
theorem cq340 : Cond.static yL_low ∈ WS := mw 340 (by decide +kernel) rfl
theorem cq341 : Cond.code yL_low cL_low 2 (some .int) ∈ WS := mw 341 (by decide +kernel) rfl
theorem cq343 : Cond.methodLink RL 23 yL_jar ∈ WS := mw 343 (by decide +kernel) rfl
theorem cq344 : Cond.static yL_jar ∈ WS := mw 344 (by decide +kernel) rfl
theorem cq345 : Cond.code yL_jar cL_jar 3 (some .int) ∈ WS := mw 345 (by decide +kernel) rfl
theorem cq350 : Cond.methodLink RL 102 yL_does ∈ WS := mw 350 (by decide +kernel) rfl
theorem cq351 : Cond.static yL_does ∈ WS := mw 351 (by decide +kernel) rfl
theorem cq352 : Cond.code yL_does cL_does 5 (some .int) ∈ WS := mw 352 (by decide +kernel) rfl
theorem cq527 : Cond.methodLink RL 105 yL_areAccountsSo ∈ WS := mw 527 (by decide +kernel) rfl
theorem cq528 : Cond.static yL_areAccountsSo ∈ WS := mw 528 (by decide +kernel) rfl
theorem cq529 : Cond.code yL_areAccountsSo cL_areAccountsSo 9 (some .boolean) ∈ WS := mw 529 (by decide +kernel) rfl
theorem cq557 : Cond.methodLink RL 109 yL_isMixSo ∈ WS := mw 557 (by decide +kernel) rfl
theorem cq558 : Cond.static yL_isMixSo ∈ WS := mw 558 (by decide +kernel) rfl
theorem cq559 : Cond.code yL_isMixSo cL_isMixSo 13 (some .boolean) ∈ WS := mw 559 (by decide +kernel) rfl
theorem cq577 : Cond.methodLink RL 121 yL_areFewestSo ∈ WS := mw 577 (by decide +kernel) rfl
theorem cq578 : Cond.static yL_areFewestSo ∈ WS := mw 578 (by decide +kernel) rfl
theorem cq579 : Cond.code yL_areFewestSo cL_areFewestSo 12 (some .boolean) ∈ WS := mw 579 (by decide +kernel) rfl
theorem cq613 : Cond.methodLink RL 124 yL_areRulesSo ∈ WS := mw 613 (by decide +kernel) rfl
theorem cq614 : Cond.static yL_areRulesSo ∈ WS := mw 614 (by decide +kernel) rfl
theorem cq615 : Cond.code yL_areRulesSo cL_areRulesSo 7 (some .boolean) ∈ WS := mw 615 (by decide +kernel) rfl
theorem cq636 : Cond.methodLink RL 117 yL_isPourSo ∈ WS := mw 636 (by decide +kernel) rfl
theorem cq637 : Cond.static yL_isPourSo ∈ WS := mw 637 (by decide +kernel) rfl
theorem cq638 : Cond.code yL_isPourSo cL_isPourSo 10 (some .boolean) ∈ WS := mw 638 (by decide +kernel) rfl
theorem cq643 : Cond.methodLink RL 113 yL_isServeSo ∈ WS := mw 643 (by decide +kernel) rfl
theorem cq644 : Cond.static yL_isServeSo ∈ WS := mw 644 (by decide +kernel) rfl
theorem cq645 : Cond.code yL_isServeSo cL_isServeSo 9 (some .boolean) ∈ WS := mw 645 (by decide +kernel) rfl
theorem cl_count : CL YX7_count 1 := ⟨cq21, cq267, ⟨by decide +kernel, by decide +kernel, by decide +kernel⟩, by decide⟩
theorem cl_low : CL YL_low 2 := ⟨cq20, cq341, ⟨by decide +kernel, by decide +kernel, by decide +kernel⟩, by decide⟩
theorem cl_jar : CL YL_jar 2 := ⟨cq20, cq345, ⟨by decide +kernel, by decide +kernel, by decide +kernel⟩, by decide⟩
theorem cl_cell : CL YL_cell 2 := ⟨cq20, cq338, ⟨by decide +kernel, by decide +kernel, by decide +kernel⟩, by decide⟩
theorem cl_does : CL YL_does 2 := ⟨cq20, cq352, ⟨by decide +kernel, by decide +kernel, by decide +kernel⟩, by decide⟩
theorem cl_areAccountsSo : CL YL_areAccountsSo 2 := ⟨cq20, cq529, ⟨by decide +kernel, by decide +kernel, by decide +kernel⟩, by decide⟩
theorem cl_isMixSo : CL YL_isMixSo 4 := ⟨cq20, cq559, ⟨by decide +kernel, by decide +kernel, by decide +kernel⟩, by decide⟩
theorem cl_isServeSo : CL YL_isServeSo 1 := ⟨cq20, cq645, ⟨by decide +kernel, by decide +kernel, by decide +kernel⟩, by decide⟩
theorem cl_isPourSo : CL YL_isPourSo 3 := ⟨cq20, cq638, ⟨by decide +kernel, by decide +kernel, by decide +kernel⟩, by decide⟩
theorem cl_areFewestSo : CL YL_areFewestSo 2 := ⟨cq20, cq579, ⟨by decide +kernel, by decide +kernel, by decide +kernel⟩, by decide⟩
theorem cl_areRulesSo : CL YL_areRulesSo 1 := ⟨cq20, cq615, ⟨by decide +kernel, by decide +kernel, by decide +kernel⟩, by decide⟩
section LAWL
variable {p : Program} {l : Launch} {e : Env} {s : State} {m : MethodId} {args : Array Value} {below : List Frame} {meth : Method} {c : Code} {Q : State → Prop} {D : va_G} {ca : Nat → ClassId} {A : Nat → Prop} {cells slots : Nat} {ls : Array Slot} {aX : Nat → Nat} {ν : Mem} {b L k : Nat} {xs : Nat → Int32} {t C eo : Int} {a : Nat → Int}
set_option maxHeartbeats 2000000 in
theorem law_round (X : LE D ca aX p s m args c A b L xs cells slots) (hk : k < 44) (hN : RM ν) (h : ST a none t ν) (h0 : 0 ≤ t) (ht : t ≤ 90000000) (he : eo < 200) (o : OD a eo) (lb : BL a) (hC : a 43 + a 58 + a 59 = C) (hl : lv_has ls 9 [(3, .int (Int32.ofInt (k : Int))), (2, .int (Int32.ofInt C)), (1, .ref (aX 0)), (0, .ref b)])
    (kend : ∀ (ν' : Mem) (ls' : Array Slot) (a' : Nat → Int) (C' : Int), RM ν' → ST a' none (t + 2000000) ν' → OD a' (eo + 1) → BL a' → a' 43 + a' 58 + a' 59 = C' → lv_has ls' 9 [(3, .int (Int32.ofInt (k : Int))), (2, .int (Int32.ofInt C')), (1, .ref (aX 0)), (0, .ref b)] → LJ p l e s m args below meth c Q D ca A aX ν' cells slots 215 ls' []) : LJ p l e s m args below meth c Q D ca A aX ν cells slots 18 ls [] := by
  have hw := h.1.1
  have w43 := hw.2.2.2.2.2.2.1
  have b58 := ab hw 58 (by omega) (by omega)
  have b59 := ab hw 59 (by omega) (by omega)
  have kR : inR (k : Int) := by unfold inR; omega
  have had : w32 (w32 (a 43 + a 58) + a 59) = C := by rw [w32_eq (x := a 43 + a 58) (by omega) (by omega), w32_eq (by omega) (by omega)]; exact hC
  refine LJ.aload_n X dL_law_18 rfl (lv_at hl 3 rfl) ?_
  refine LJ.iload_n X dL_law_19 rfl (lv_at hl 0 rfl) ?_
  refine LJ.cell X (by omega) hN cl_cell hl.1 (Nat.le_of_ble_eq_true rfl) cq336 cq337 dL_law_20 (fun hN hV => ?_)
  generalize (cellZ xs L k).toInt = V at hV
  refine LJ.istore X [(4, .int (Int32.ofInt V)), (3, .int (Int32.ofInt (k : Int))), (2, .int (Int32.ofInt C)), (1, .ref (aX 0)), (0, .ref b)] dL_law_23 hl (by decide) rfl (fun ls hl => ?_)
  obtain ⟨ν1, e1, h1⟩ := q_c6 h
  refine LJ.aload_n X dL_law_25 rfl (lv_at hl 3 rfl) ?_
  refine LJ.bipush X dL_law_26 (by decide) ?_
  refine LJ.callV (as := [.inl 6]) (st := []) (r := a 43) (ν' := ν1) (e_xx_count e1) X hN (RS_cons (by show inR 6; decide) RS_nil) rfl cl_count hl.1 (Nat.le_of_ble_eq_true rfl) cq264 cq265 cq266 rfl dL_law_28 (fun hN _ => ?_)
  obtain ⟨ν2, e2, h2⟩ := q_c14 h1
  refine LJ.aload_n X dL_law_31 rfl (lv_at hl 3 rfl) ?_
  refine LJ.bipush X dL_law_32 (by decide) ?_
  refine LJ.callV (as := [.inl 14]) (st := [.int (Int32.ofInt (a 43))]) (r := a 58) (ν' := ν2) (e_xx_count e2) X hN (RS_cons (by show inR 14; decide) RS_nil) rfl cl_count hl.1 (Nat.le_of_ble_eq_true rfl) cq264 cq265 cq266 rfl dL_law_34 (fun hN _ => ?_)
  refine LJ.iadd X dL_law_37 ?_
  obtain ⟨ν3, e3, h3⟩ := q_c15 h2
  refine LJ.aload_n X dL_law_38 rfl (lv_at hl 3 rfl) ?_
  refine LJ.bipush X dL_law_39 (by decide) ?_
  refine LJ.callV (as := [.inl 15]) (st := [.int (Int32.ofInt (w32 (a 43 + a 58)))]) (r := a 59) (ν' := ν3) (e_xx_count e3) X hN (RS_cons (by show inR 15; decide) RS_nil) rfl cl_count hl.1 (Nat.le_of_ble_eq_true rfl) cq264 cq265 cq266 rfl dL_law_41 (fun hN _ => ?_)
  refine LJ.iadd X dL_law_44 ?_
  rw [had]
  refine LJ.istore X [(5, .int (Int32.ofInt C)), (4, .int (Int32.ofInt V)), (3, .int (Int32.ofInt (k : Int))), (2, .int (Int32.ofInt C)), (1, .ref (aX 0)), (0, .ref b)] dL_law_45 hl (by decide) rfl (fun ls hl => ?_)
  obtain ⟨g, a', hg, ⟨ν4, e4, h4⟩, o', lb'⟩ := l_does h3 h0 (by omega) he o lb V
  refine LJ.aload_n X dL_law_47 rfl (lv_at hl 4 rfl) ?_
  refine LJ.iload X dL_law_48 (lv_at hl 1 rfl) ?_
  refine LJ.callS (as := [.inr 0, .inl V]) (st := []) (r := g) (ν' := ν4) (e_xl_does e4) X hN (RS_cons trivial (RS_cons hV RS_nil)) cl_does hl.1 (Nat.le_of_ble_eq_true rfl) cq350 cq351 rfl dL_law_50 (fun hN hgR => ?_)
  refine LJ.istore X [(6, .int (Int32.ofInt g)), (5, .int (Int32.ofInt C)), (4, .int (Int32.ofInt V)), (3, .int (Int32.ofInt (k : Int))), (2, .int (Int32.ofInt C)), (1, .ref (aX 0)), (0, .ref b)] dL_law_53 hl (by decide) rfl (fun ls hl => ?_)
  have hw' := h4.1.1
  have w43' := hw'.2.2.2.2.2.2.1
  have b58' := ab hw' 58 (by omega) (by omega)
  have b59' := ab hw' 59 (by omega) (by omega)
  obtain ⟨C', hC'⟩ : ∃ C', a' 43 + a' 58 + a' 59 = C' := ⟨_, rfl⟩
  have now : w32 (C + w32 (w32 (w32 (a' 43 + a' 58) + a' 59) - C)) = C' := by rw [w32_eq (x := a' 43 + a' 58) (by omega) (by omega), w32_eq (x := a' 43 + a' 58 + a' 59) (by omega) (by omega), w32_eq (x := a' 43 + a' 58 + a' 59 - C) (by omega) (by omega), w32_eq (by omega) (by omega)]; omega
  have CR : inR C' := by unfold inR; omega
  refine LJ.iload_n X dL_law_55 rfl (lv_at hl 4 rfl) ?_
  obtain ⟨ν5, e5, h5⟩ := q_c6 h4
  refine LJ.aload_n X dL_law_56 rfl (lv_at hl 5 rfl) ?_
  refine LJ.bipush X dL_law_57 (by decide) ?_
  refine LJ.callV (as := [.inl 6]) (st := [.int (Int32.ofInt C)]) (r := a' 43) (ν' := ν5) (e_xx_count e5) X hN (RS_cons (by show inR 6; decide) RS_nil) rfl cl_count hl.1 (Nat.le_of_ble_eq_true rfl) cq264 cq265 cq266 rfl dL_law_59 (fun hN _ => ?_)
  obtain ⟨ν6, e6, h6⟩ := q_c14 h5
  refine LJ.aload_n X dL_law_62 rfl (lv_at hl 5 rfl) ?_
  refine LJ.bipush X dL_law_63 (by decide) ?_
  refine LJ.callV (as := [.inl 14]) (st := [.int (Int32.ofInt (a' 43)), .int (Int32.ofInt C)]) (r := a' 58) (ν' := ν6) (e_xx_count e6) X hN (RS_cons (by show inR 14; decide) RS_nil) rfl cl_count hl.1 (Nat.le_of_ble_eq_true rfl) cq264 cq265 cq266 rfl dL_law_65 (fun hN _ => ?_)
  refine LJ.iadd X dL_law_68 ?_
  obtain ⟨ν7, e7, h7⟩ := q_c15 h6
  refine LJ.aload_n X dL_law_69 rfl (lv_at hl 5 rfl) ?_
  refine LJ.bipush X dL_law_70 (by decide) ?_
  refine LJ.callV (as := [.inl 15]) (st := [.int (Int32.ofInt (w32 (a' 43 + a' 58))), .int (Int32.ofInt C)]) (r := a' 59) (ν' := ν7) (e_xx_count e7) X hN (RS_cons (by show inR 15; decide) RS_nil) rfl cl_count hl.1 (Nat.le_of_ble_eq_true rfl) cq264 cq265 cq266 rfl dL_law_72 (fun hN _ => ?_)
  refine LJ.iadd X dL_law_75 ?_
  refine LJ.iload X dL_law_76 (lv_at hl 1 rfl) ?_
  refine LJ.isub X dL_law_78 ?_
  refine LJ.iadd X dL_law_79 ?_
  rw [now]
  refine LJ.istore_n X [(2, .int (Int32.ofInt C')), (6, .int (Int32.ofInt g)), (5, .int (Int32.ofInt C)), (4, .int (Int32.ofInt V)), (3, .int (Int32.ofInt (k : Int))), (1, .ref (aX 0)), (0, .ref b)] dL_law_80 rfl hl (by decide) rfl (fun ls hl => ?_)
  obtain ⟨x, ⟨ν8, e8, h8⟩, hx⟩ := l_jar h7 (ishr32 V 5)
  refine LJ.aload_n X dL_law_81 rfl (lv_at hl 5 rfl) ?_
  refine LJ.iload X dL_law_82 (lv_at hl 3 rfl) ?_
  refine LJ.iconst X dL_law_84 ?_
  refine LJ.ishr X dL_law_85 ?_
  refine LJ.callS (as := [.inr 0, .inl (ishr32 V 5)]) (st := []) (r := x) (ν' := ν8) (e_xl_jar e8) X hN (RS_cons trivial (RS_cons (to_in _) RS_nil)) cl_jar hl.1 (Nat.le_of_ble_eq_true rfl) cq343 cq344 rfl dL_law_86 (fun hN hxR => ?_)
  refine LJ.istore X [(7, .int (Int32.ofInt x)), (2, .int (Int32.ofInt C')), (6, .int (Int32.ofInt g)), (5, .int (Int32.ofInt C)), (4, .int (Int32.ofInt V)), (3, .int (Int32.ofInt (k : Int))), (1, .ref (aX 0)), (0, .ref b)] dL_law_89 hl (by decide) rfl (fun ls hl => ?_)
  obtain ⟨y, ⟨ν9, e9, h9⟩, hy⟩ := l_jar h8 (ishr32 V 7)
  refine LJ.aload_n X dL_law_91 rfl (lv_at hl 6 rfl) ?_
  refine LJ.iload X dL_law_92 (lv_at hl 4 rfl) ?_
  refine LJ.bipush X dL_law_94 (by decide) ?_
  refine LJ.ishr X dL_law_96 ?_
  refine LJ.callS (as := [.inr 0, .inl (ishr32 V 7)]) (st := []) (r := y) (ν' := ν9) (e_xl_jar e9) X hN (RS_cons trivial (RS_cons (to_in _) RS_nil)) cl_jar hl.1 (Nat.le_of_ble_eq_true rfl) cq343 cq344 rfl dL_law_97 (fun hN hyR => ?_)
  refine LJ.istore X [(8, .int (Int32.ofInt y)), (7, .int (Int32.ofInt x)), (2, .int (Int32.ofInt C')), (6, .int (Int32.ofInt g)), (5, .int (Int32.ofInt C)), (4, .int (Int32.ofInt V)), (3, .int (Int32.ofInt (k : Int))), (1, .ref (aX 0)), (0, .ref b)] dL_law_100 hl (by decide) rfl (fun ls hl => ?_)
  refine LJ.iload X dL_law_102 (lv_at hl 3 rfl) ?_
  refine LJ.lt X 213 dL_law_104 (by decide) hgR (fun z => absurd z (by omega)) (fun _ => ?_)
  obtain ⟨ν10, e10, h10⟩ := l_accounts h9 (by omega) (by omega) o' lb' hC'
  refine LJ.aload_n X dL_law_107 rfl (lv_at hl 7 rfl) ?_
  refine LJ.iload_n X dL_law_108 rfl (lv_at hl 2 rfl) ?_
  refine LJ.callS (as := [.inr 0, .inl C']) (st := []) (r := 1) (ν' := ν10) (e_xl_areAccountsSo e10) X hN (RS_cons trivial (RS_cons CR RS_nil)) cl_areAccountsSo hl.1 (Nat.le_of_ble_eq_true rfl) cq527 cq528 rfl dL_law_109 (fun hN _ => ?_)
  refine LJ.eq0 X 213 dL_law_112 (by decide) ?_
  obtain ⟨m1, f1, m10, m11⟩ := low_eq (ishr32 V 2) (n := 6561) (by decide)
  obtain ⟨m2, f2, m20, m21⟩ := low_eq (ishr32 V 5) (n := 6561) (by decide)
  have m1R : inR m1 := by unfold inR; omega
  have m2R : inR m2 := by unfold inR; omega
  obtain ⟨ν11, e11, h11⟩ := l_mix (v := V) h10 ⟨m10, m11⟩ ⟨m20, m21⟩
  refine LJ.aload_n X dL_law_115 rfl (lv_at hl 7 rfl) ?_
  refine LJ.iload X dL_law_116 (lv_at hl 5 rfl) ?_
  refine LJ.iconst X dL_law_118 ?_
  refine LJ.ishr X dL_law_119 ?_
  refine LJ.sipush X dL_law_120 (by decide) ?_
  refine LJ.callS (as := [.inl (ishr32 V 2), .inl 6561]) (st := [.ref (aX 0)]) (r := m1) (ν' := ν10) (e_xl_low f1) X hN (RS_cons (to_in _) (RS_cons (by show inR 6561; decide) RS_nil)) cl_low hl.1 (Nat.le_of_ble_eq_true rfl) cq339 cq340 rfl dL_law_123 (fun hN _ => ?_)
  refine LJ.iload X dL_law_126 (lv_at hl 5 rfl) ?_
  refine LJ.iconst X dL_law_128 ?_
  refine LJ.ishr X dL_law_129 ?_
  refine LJ.sipush X dL_law_130 (by decide) ?_
  refine LJ.callS (as := [.inl (ishr32 V 5), .inl 6561]) (st := [.int (Int32.ofInt m1), .ref (aX 0)]) (r := m2) (ν' := ν10) (e_xl_low f2) X hN (RS_cons (to_in _) (RS_cons (by show inR 6561; decide) RS_nil)) cl_low hl.1 (Nat.le_of_ble_eq_true rfl) cq339 cq340 rfl dL_law_133 (fun hN _ => ?_)
  refine LJ.iload X dL_law_136 (lv_at hl 5 rfl) ?_
  refine LJ.callS (as := [.inr 0, .inl m1, .inl m2, .inl V]) (st := []) (r := 1) (ν' := ν11) (e_xl_isMixSo e11) X hN (RS_cons trivial (RS_cons m1R (RS_cons m2R (RS_cons hV RS_nil)))) cl_isMixSo hl.1 (Nat.le_of_ble_eq_true rfl) cq557 cq558 rfl dL_law_138 (fun hN _ => ?_)
  refine LJ.eq0 X 213 dL_law_141 (by decide) ?_
  obtain ⟨ν12, e12, h12⟩ := l_serve h11 (by omega) (by omega) o' lb'
  refine LJ.aload_n X dL_law_144 rfl (lv_at hl 7 rfl) ?_
  refine LJ.callS (as := [.inr 0]) (st := []) (r := 1) (ν' := ν12) (e_xl_isServeSo e12) X hN (RS_cons trivial RS_nil) cl_isServeSo hl.1 (Nat.le_of_ble_eq_true rfl) cq643 cq644 rfl dL_law_145 (fun hN _ => ?_)
  refine LJ.eq0 X 213 dL_law_148 (by decide) ?_
  have fin : ∀ ν' u, RM ν' → u ≤ t + 2000000 → ST a' none u ν' → LJ p l e s m args below meth c Q D ca A aX ν' cells slots 215 ls [] := fun ν' u hN' hu h' => kend ν' ls a' C' hN' (ST_n h' hu) o' lb' hC' (lv_sub hl [6, 2, 7, 8] rfl)
  have rules : ∀ ν', RM ν' → ST a' none (t + 300000) ν' → LJ p l e s m args below meth c Q D ca A aX ν' cells slots 199 ls [] := fun ν' hN h' => by
    refine LJ.iload_n X dL_law_199 rfl (lv_at hl 6 rfl) ?_
    refine LJ.iconst X dL_law_200 ?_
    refine LJ.irem X dL_law_201 kR (by decide) (by decide) ?_
    refine LJ.iconst X dL_law_202 ?_
    refine LJ.cne X 215 dL_law_203 (by decide) (tmod_in kR) (by decide) (fun _ => fin ν' _ hN (by omega) h') (fun _ => ?_)
    obtain ⟨ν15, e15, h15⟩ := l_rules h' (by omega)
    refine LJ.aload_n X dL_law_206 rfl (lv_at hl 7 rfl) ?_
    refine LJ.callS (as := [.inr 0]) (st := []) (r := 1) (ν' := ν15) (e_xl_areRulesSo e15) X hN (RS_cons trivial RS_nil) cl_areRulesSo hl.1 (Nat.le_of_ble_eq_true rfl) cq613 cq614 rfl dL_law_207 (fun hN _ => ?_)
    exact LJ.ne0 X 215 dL_law_210 (by decide) (fin ν15 _ hN (by omega) h15)
  have few : ∀ ν', RM ν' → ST a' none (t + 300000) ν' → LJ p l e s m args below meth c Q D ca A aX ν' cells slots 174 ls [] := fun ν' hN h' => by
    refine LJ.iload_n X dL_law_174 rfl (lv_at hl 6 rfl) ?_
    refine LJ.bipush X dL_law_175 (by decide) ?_
    refine LJ.irem X dL_law_177 kR (by decide) (by decide) ?_
    refine LJ.iconst X dL_law_178 ?_
    refine LJ.cne X 199 dL_law_179 (by decide) (tmod_in kR) (by decide) (fun _ => rules ν' hN h') (fun _ => ?_)
    obtain ⟨m3, f3, m30, m31⟩ := low_eq (ishr32 V 4) (n := 6561) (by decide)
    have m3R : inR m3 := by unfold inR; omega
    obtain ⟨ν14, e14, h14⟩ := l_fewest h' ⟨m30, m31⟩ o'
    refine LJ.aload_n X dL_law_182 rfl (lv_at hl 7 rfl) ?_
    refine LJ.iload X dL_law_183 (lv_at hl 5 rfl) ?_
    refine LJ.iconst X dL_law_185 ?_
    refine LJ.ishr X dL_law_186 ?_
    refine LJ.sipush X dL_law_187 (by decide) ?_
    refine LJ.callS (as := [.inl (ishr32 V 4), .inl 6561]) (st := [.ref (aX 0)]) (r := m3) (ν' := ν') (e_xl_low f3) X hN (RS_cons (to_in _) (RS_cons (by show inR 6561; decide) RS_nil)) cl_low hl.1 (Nat.le_of_ble_eq_true rfl) cq339 cq340 rfl dL_law_190 (fun hN _ => ?_)
    refine LJ.callS (as := [.inr 0, .inl m3]) (st := []) (r := 1) (ν' := ν14) (e_xl_areFewestSo e14) X hN (RS_cons trivial (RS_cons m3R RS_nil)) cl_areFewestSo hl.1 (Nat.le_of_ble_eq_true rfl) cq577 cq578 rfl dL_law_193 (fun hN _ => ?_)
    exact LJ.eq0 X 213 dL_law_196 (by decide) (rules ν14 hN h14)
  refine LJ.iload X dL_law_151 (lv_at hl 1 rfl) ?_
  refine LJ.lt X 174 dL_law_153 (by decide) hxR (fun _ => few ν12 hN (ST_n h12 (by omega))) (fun hx0 => ?_)
  refine LJ.iload X dL_law_156 (lv_at hl 1 rfl) ?_
  refine LJ.iload X dL_law_158 (lv_at hl 0 rfl) ?_
  refine LJ.ceq X 174 dL_law_160 (by decide) hxR hyR (fun _ => few ν12 hN (ST_n h12 (by omega))) (fun hxy => ?_)
  rcases hx with ⟨hx, -⟩ | ⟨i, hi, hx⟩
  · exact absurd (show x < 0 by omega) hx0
  rcases hy with ⟨-, hy⟩ | ⟨j, hj, hy⟩
  · exact absurd hi (by omega)
  have hij : i ≠ j := fun z => hxy (by rw [hx, hy, z])
  obtain ⟨ν13, e13, h13⟩ := l_pour h12 (by omega) (by omega) o' lb' hi hj hij
  rw [← hx, ← hy] at e13
  refine LJ.aload_n X dL_law_163 rfl (lv_at hl 7 rfl) ?_
  refine LJ.iload X dL_law_164 (lv_at hl 1 rfl) ?_
  refine LJ.iload X dL_law_166 (lv_at hl 0 rfl) ?_
  refine LJ.callS (as := [.inr 0, .inl x, .inl y]) (st := []) (r := 1) (ν' := ν13) (e_xl_isPourSo e13) X hN (RS_cons trivial (RS_cons hxR (RS_cons hyR RS_nil))) cl_isPourSo hl.1 (Nat.le_of_ble_eq_true rfl) cq636 cq637 rfl dL_law_168 (fun hN _ => ?_)
  exact LJ.eq0 X 213 dL_law_171 (by decide) (few ν13 hN (ST_n h13 (by omega)))
theorem law_loop (X : LE D ca aX p s m args c A b L xs cells slots) (kend : ∀ (ν' : Mem) (ls' : Array Slot), LJ p l e s m args below meth c Q D ca A aX ν' cells slots 221 ls' []) (j : Nat) : ∀ (k : Nat) (ν : Mem) (a : Nat → Int) (C : Int) (ls : Array Slot), k + j = 44 → RM ν → ST a none (2000000 * (k : Int)) ν → OD a k → BL a → a 43 + a 58 + a 59 = C → lv_has ls 9 [(3, .int (Int32.ofInt (k : Int))), (2, .int (Int32.ofInt C)), (1, .ref (aX 0)), (0, .ref b)] → LJ p l e s m args below meth c Q D ca A aX ν cells slots 12 ls [] := by
  induction j with
  | zero =>
    intro k ν a C ls hk hN h o lb hC hl
    have kR : inR (k : Int) := by unfold inR; omega
    refine LJ.iload_n X dL_law_12 rfl (lv_at hl 0 rfl) ?_
    refine LJ.bipush X dL_law_13 (by decide) ?_
    exact LJ.cge X 221 dL_law_15 (by decide) kR (by decide) (fun _ => kend ν ls) (fun z => absurd (show (44 : Int) ≤ k by omega) z)
  | succ j ih =>
    intro k ν a C ls hk hN h o lb hC hl
    have kR : inR (k : Int) := by unfold inR; omega
    refine LJ.iload_n X dL_law_12 rfl (lv_at hl 0 rfl) ?_
    refine LJ.bipush X dL_law_13 (by decide) ?_
    refine LJ.cge X 221 dL_law_15 (by decide) kR (by decide) (fun z => absurd z (by omega)) (fun _ => ?_)
    refine law_round (k := k) X (by omega) hN h (by omega) (by omega) (by omega) o lb hC hl (fun ν' ls' a' C' hN' h' o' lb' hC' hl' => ?_)
    refine LJ.iinc (k := 0) X (Int32.ofInt ((k + 1 : Nat) : Int)) [(3, .int (Int32.ofInt ((k + 1 : Nat) : Int))), (2, .int (Int32.ofInt C')), (1, .ref (aX 0)), (0, .ref b)] dL_law_215 hl' rfl (by rw [← Int32.ofInt_add]; rfl) (by decide) rfl (fun ls2 hl2 => ?_)
    refine LJ.goto X 12 dL_law_218 (by decide) ?_
    exact ih (k + 1) ν' a' C' ls2 (by omega) hN' (by rw [show 2000000 * ((k + 1 : Nat) : Int) = 2000000 * (k : Int) + 2000000 by omega]; exact h') (by rw [show ((k + 1 : Nat) : Int) = (k : Int) + 1 by omega]; exact o') lb' hC' hl2
end LAWL
