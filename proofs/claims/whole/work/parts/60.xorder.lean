/-! an order, read by the class -/
section TXT8
variable {tx : Nat → Int} {len : Nat}
noncomputable def rdK (μ : Mem) : Option (Int × Mem) :=
    bnd ((μ 63 3)) fun v3 =>
    if v3 = 3 then
      (xw_readRuleNumber μ).bind fun p4 =>
      if p4.1 = 0 ∨ p4.1 = 1 then
      some (p4.1, p4.2)
      else none
    else
    if v3 = 4 then
      (xw_readFirst μ).bind fun p5 =>
      if p5.1 = 0 then
        xw_readOrder_85 p5.2
      else
      (xw_skip 62 p5.2).bind fun p6 =>
      if p6.1 = 0 then
        xw_readOrder_85 p6.2
      else
      (xw_readSecond p6.2).bind fun p7 =>
      if p7.1 = 0 then
        xw_readOrder_85 p7.2
      else
      xw_readOrder_86 1 p7.2
    else
    if v3 = 5 then
      (xw_readFirst μ).bind fun p8 =>
      if p8.1 = 0 ∨ p8.1 = 1 then
      some (p8.1, p8.2)
      else none
    else
    (xw_readMix μ).bind fun p9 =>
    if p9.1 = 0 ∨ p9.1 = 1 then
    some (p9.1, p9.2)
    else none
theorem rdK_eq (ν : Mem) : xw_readOrder ν = ((xw_readWord ν).bind fun p1 => if p1.1 = 0 then xw_readOrder_16 p1.2 else (xw_skip 61 p1.2).bind fun p2 => if p2.1 = 0 then xw_readOrder_16 p2.2 else rdK p2.2) := rfl
theorem mst63 (ν : Mem) (q : Nat) (v : Int) (hq : q = 2 ∨ q = 3 ∨ q = 5 ∨ q = 6) : XP ν (mst ν 63 q v) := fun a b z _ => by
  by_cases y : a = 63
  · subst y; exact mst_ix (by omega)
  · exact mst_pl y
theorem frM_XP {ν ν' : Mem} (h : frM ν ν') : XP ν ν' := fun a b z y => h a b (by omega) y
theorem nV_b {q : Nat} (h : nxt tx len 48 57 q) : 0 ≤ nV tx len q := by
  have c1 := h.1
  have c2 := h.2
  exact (numF_b (tx := tx) (len := len) (len - (q + 1)) (q + 1) (tx q - 48) (by omega) (by omega) (by omega)).2.2.1
theorem first_y {ν : Mem} {q : Nat} (T : XT tx len ν) (R : ν 63 2 = (q : Int)) (h : nxt tx len 48 57 q) : ∃ ν', xw_readFirst ν = some (1, ν') ∧ ν' 63 2 = (((nP tx len q).2 : Nat) : Int) ∧ ν' 63 5 = nV tx len q ∧ XP ν ν' ∧ ν' 63 3 = ν 63 3 := by
  obtain ⟨ν1, e, r, f⟩ := xnumber_y T R h
  have hn : (nP tx len q).2 = (numF tx len (len - (q + 1)) (q + 1) (tx q - 48)).2 := by rw [nP, if_pos h]
  have hv := nV_b h
  refine ⟨mst ν1 63 5 (nV tx len q), ?_, by rw [mst_ix (by decide), hn]; exact r, mst_same _ _ _ _, XP_tr (fun a b z _ => f a b (by omega)) (mst63 ν1 5 _ (by omega)), by rw [mst_ix (by decide), f _ _ (by decide)]⟩
  rw [xw_readFirst, e, sb, bnd_eq, mst_same]
  show (if nV tx len q < 0 then xw_readFirst_20 0 (mst ν1 63 5 (nV tx len q)) else xw_readFirst_20 1 (mst ν1 63 5 (nV tx len q))) = _
  rw [if_neg (by omega), xw_readFirst_20, if_pos (Or.inr rfl)]
theorem first_n {ν : Mem} {q : Nat} (T : XT tx len ν) (R : ν 63 2 = (q : Int)) (h : ¬ nxt tx len 48 57 q) : ∃ ν', xw_readFirst ν = some (0, ν') ∧ ν' 63 2 = (q : Int) ∧ XP ν ν' := by
  refine ⟨mst ν 63 5 (-5), ?_, by rw [mst_ix (by decide)]; exact R, mst63 ν 5 _ (by omega)⟩
  rw [xw_readFirst, xnumber_n T R h, sb, bnd_eq, mst_same, if_pos (show (-5 : Int) < 0 by decide), xw_readFirst_20, if_pos (Or.inl rfl)]
theorem second_y {ν : Mem} {q : Nat} (T : XT tx len ν) (R : ν 63 2 = (q : Int)) (h : nxt tx len 48 57 q) : ∃ ν', xw_readSecond ν = some (1, ν') ∧ ν' 63 2 = (((nP tx len q).2 : Nat) : Int) ∧ ν' 63 6 = nV tx len q ∧ XP ν ν' ∧ ν' 63 3 = ν 63 3 ∧ ν' 63 5 = ν 63 5 := by
  obtain ⟨ν1, e, r, f⟩ := xnumber_y T R h
  have hn : (nP tx len q).2 = (numF tx len (len - (q + 1)) (q + 1) (tx q - 48)).2 := by rw [nP, if_pos h]
  have hv := nV_b h
  refine ⟨mst ν1 63 6 (nV tx len q), ?_, by rw [mst_ix (by decide), hn]; exact r, mst_same _ _ _ _, XP_tr (fun a b z _ => f a b (by omega)) (mst63 ν1 6 _ (by omega)), by rw [mst_ix (by decide), f _ _ (by decide)], by rw [mst_ix (by decide), f _ _ (by decide)]⟩
  rw [xw_readSecond, e, sb, bnd_eq, mst_same]
  show (if nV tx len q < 0 then xw_readSecond_20 0 (mst ν1 63 6 (nV tx len q)) else xw_readSecond_20 1 (mst ν1 63 6 (nV tx len q))) = _
  rw [if_neg (by omega), xw_readSecond_20, if_pos (Or.inr rfl)]
theorem second_n {ν : Mem} {q : Nat} (T : XT tx len ν) (R : ν 63 2 = (q : Int)) (h : ¬ nxt tx len 48 57 q) : ∃ ν', xw_readSecond ν = some (0, ν') ∧ ν' 63 2 = (q : Int) ∧ XP ν ν' := by
  refine ⟨mst ν 63 6 (-5), ?_, by rw [mst_ix (by decide)]; exact R, mst63 ν 6 _ (by omega)⟩
  rw [xw_readSecond, xnumber_n T R h, sb, bnd_eq, mst_same, if_pos (show (-5 : Int) < 0 by decide), xw_readSecond_20, if_pos (Or.inl rfl)]
theorem rule_y {ν : Mem} {q : Nat} (T : XT tx len ν) (R : ν 63 2 = (q : Int)) (h : nxt tx len 48 57 q) : ∃ ν', xw_readRuleNumber ν = some (1, ν') ∧ ν' 63 2 = ((q + 1 : Nat) : Int) ∧ ν' 63 5 = tx q - 48 ∧ XP ν ν' ∧ ν' 63 3 = ν 63 3 := by
  have h1 := h.1
  have h2 := h.2
  have hl := T.2.1
  refine ⟨mst (mst ν 63 5 (tx q - 48)) 63 2 ((q : Int) + 1), ?_, by rw [mst_same]; omega, by rw [mst_ix (by decide), mst_same], XP_tr (mst63 ν 5 _ (by omega)) (mst63 _ 2 _ (by omega)), by rw [mst_ix (by decide), mst_ix (by decide)]⟩
  rw [xw_readRuleNumber, digit_y T R h, sb, bnd_eq, mst_same, if_pos (by omega), mst_ix (by decide), R, w32_eq (by omega) (by omega), bnd_eq]
theorem rule_n {ν : Mem} {q : Nat} (T : XT tx len ν) (R : ν 63 2 = (q : Int)) (h : ¬ nxt tx len 48 57 q) : ∃ ν', xw_readRuleNumber ν = some (0, ν') ∧ ν' 63 2 = (q : Int) ∧ XP ν ν' := by
  refine ⟨mst ν 63 5 (-5), ?_, by rw [mst_ix (by decide)]; exact R, mst63 ν 5 _ (by omega)⟩
  rw [xw_readRuleNumber, digit_n T R h, sb, bnd_eq, mst_same, if_neg (by decide)]
end TXT8
