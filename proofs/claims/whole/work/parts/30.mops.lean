/-! the reference's orders on a row -/
theorem Wf_acc {a : Nat → Int} {t : Int} (h : Wf a t) (ht : t ≤ 2000000000) (k : Nat) (h1 : 52 ≤ k) (h2 : k < 60) : -2000000000 ≤ a k ∧ a k ≤ 2000000000 := by
  have := h.2.2.2.2.2.2.2.2 (k - 52) (by omega)
  rw [show 52 + (k - 52) = k by omega] at this
  omega
theorem pfind (μ : Mem) {a : Nat → Int} {t : Int} (h : Wf a t) (x : Int) : mm_find x (pl μ a) = some (fnd a x) := by
  have := mfind_eq (μ := pl μ a) x (by rw [pl_1']; exact h.2.1)
  rwa [pl_1] at this
theorem pmixIn (μ : Mem) {a : Nat → Int} {k : Int} (h0 : 0 ≤ k) (h1 : k < 12) : mm_mixIn k (pl μ a) = some (mixA a k) := by
  have := mmixIn_eq (pl μ a) h0 h1
  rwa [pl_1] at this
theorem pprice (μ : Mem) {a : Nat → Int} (h : okP a) {m : Int} (hm : isM m) : mm_priceOf m (pl μ a) = some (prc a m) := by
  have := mprice_eq (μ := pl μ a) (by rw [pl_1]; exact h) hm
  rwa [pl_1] at this
theorem w10 {k : Int} (h0 : 0 ≤ k) (h1 : k < 13) : w32 (w32 (9 + w32 (2 * k)) + 1) = 10 + 2 * k := by
  rw [w32_eq (x := 2 * k) (by omega) (by omega), w32_eq (x := 9 + 2 * k) (by omega) (by omega), w32_eq (by omega) (by omega)]; omega
theorem w9 {k : Int} (h0 : 0 ≤ k) (h1 : k < 13) : w32 (9 + w32 (2 * k)) = 9 + 2 * k := by
  rw [w32_eq (x := 2 * k) (by omega) (by omega), w32_eq (by omega) (by omega)]
theorem n10 {k : Int} (h0 : 0 ≤ k) : (10 + 2 * k).toNat = 10 + 2 * k.toNat := by omega
theorem n9 {k : Int} (h0 : 0 ≤ k) : (9 + 2 * k).toNat = 9 + 2 * k.toNat := by omega
theorem mcomes_eq (μ : Mem) {a : Nat → Int} {t mix u p : Int} (h : Wf a t) (ht : t ≤ 2000000000) (hm : isM mix) (hu : 0 ≤ u ∧ u ≤ 1000) (hp : 0 ≤ p ∧ p ≤ 100000) : mm_comes mix u p (pl μ a) = some ((sComes a mix u p).1, pl μ (sComes a mix u p).2) := by
  have h8 := h.2.1
  have h33 := h.2.2.2.1
  have a52 := Wf_acc h ht 52 (by omega) (by omega)
  have a53 := Wf_acc h ht 53 (by omega) (by omega)
  have a56 := Wf_acc h ht 56 (by omega) (by omega)
  have hun := un_b mix
  rw [mm_comes, sComes, pl_1']
  by_cases c1 : a 8 = 12
  · rw [if_pos c1, if_pos (Or.inl c1), mm_comes_25]
  · rw [if_neg c1, pl_1']
    by_cases c2 : a 33 = 200
    · rw [if_pos c2, if_pos (Or.inr c2), mm_comes_25]
    · rw [if_neg c2, if_neg (show ¬ (a 8 = 12 ∨ a 33 = 200) by omega), w9 h8.1 (by omega), aput_eq (by omega) (by omega), sb, mst_pl1, pl_1', n9 h8.1, up_ne (by omega), w10 h8.1 (by omega), aput_eq (by omega) (by omega), sb, mst_pl1, n10 h8.1]
      rw [bnd_eq, pl_1', up_ne (by omega), up_ne (by omega), w32_eq (x := a 8 + 1) (by omega) (by omega), mst_pl1]
      rw [bnd_eq, pl_1', up_ne (by omega), up_ne (by omega), up_ne (by omega), w32_eq (x := a 33 + 1) (by omega) (by omega), mst_pl1]
      rw [bnd_eq, pl_1', up_ne (by omega), up_ne (by omega), up_ne (by omega), up_ne (by omega), w32_eq (x := a 52 + u) (by omega) (by omega), mst_pl1]
      rw [bnd_eq, pl_1', up_ne (by omega), up_ne (by omega), up_ne (by omega), up_ne (by omega), up_ne (by omega), w32_eq (x := a 56 + p) (by omega) (by omega), mst_pl1, units_eq hm, sb]
      rw [bnd_eq, pl_1', up_ne (by omega), up_ne (by omega), up_ne (by omega), up_ne (by omega), up_ne (by omega), up_ne (by omega), w32_eq (x := u - un mix) (by omega) (by omega), w32_eq (x := a 53 + (u - un mix)) (by omega) (by omega), mst_pl1]
theorem mixA_M {a : Nat → Int} {t : Int} (h : Wf a t) {k : Int} (h0 : 0 ≤ k) (h1 : k < a 8) : isM (mixA a k) := (h.2.2.1 k.toNat (by omega)).1
theorem mpours_eq (μ : Mem) {a : Nat → Int} {t x y : Int} (h : Wf a t) (ht : t ≤ 2000000000) : mm_pours x y (pl μ a) = some ((sPours a x y).1, pl μ (sPours a x y).2) := by
  have h8 := h.2.1
  have a53 := Wf_acc h ht 53 (by omega) (by omega)
  rw [mm_pours, pfind μ h, sb, pfind μ h, sb]
  by_cases c1 : fnd a x = -5
  · rw [if_pos c1, sPours, if_pos (Or.inl c1), mm_pours_26]
  · rw [if_neg c1]
    by_cases c2 : fnd a y = -5
    · rw [if_pos c2, sPours, if_pos (Or.inr c2), mm_pours_26]
    · rw [if_neg c2]
      have c12 : ¬ (fnd a x = -5 ∨ fnd a y = -5) := fun z => z.elim c1 c2
      by_cases c3 : fnd a x = fnd a y
      · rw [if_pos c3, sPours, if_neg c12, if_pos c3]
      · have b1 := fnd_b (a := a) x h8.1
        have b2 := fnd_b (a := a) y h8.1
        rw [if_neg c3, pmixIn μ (by omega) (by omega), sb]
        by_cases c4 : mixA a (fnd a x) = 0
        · rw [if_pos c4, sPours, if_neg c12, if_neg c3, if_pos c4]
        · have m1 := mixA_M h (k := fnd a x) (by omega) (by omega)
          have m2 := mixA_M h (k := fnd a y) (by omega) (by omega)
          have m3 := mx_isM (mixA a (fnd a x)) (mixA a (fnd a y))
          have u1 := un_b (mixA a (fnd a x))
          have u2 := un_b (mixA a (fnd a y))
          have u3 := un_b (mx (mixA a (fnd a x)) (mixA a (fnd a y)))
          rw [if_neg c4, sb, pmixIn μ (by omega) (by omega), sb, mixed_eq m1 m2, sb, sb, units_eq m1, sb, sb, units_eq m2, sb, units_eq m3, sb, bnd_eq, w32_eq (x := un (mixA a (fnd a x)) + un (mixA a (fnd a y))) (by omega) (by omega), w32_eq (x := un (mixA a (fnd a x)) + un (mixA a (fnd a y)) - un (mx (mixA a (fnd a x)) (mixA a (fnd a y)))) (by omega) (by omega), w10 (by omega) (by omega), aput_eq (by omega) (by omega), sb, mst_pl1, w10 (by omega) (by omega), aput_eq (by omega) (by omega), sb, mst_pl1, bnd_eq, pl_1', n10 (by omega), n10 (by omega), up_ne (by omega), up_ne (by omega), w32_eq (by omega) (by omega), mst_pl1, sPours, if_neg c12, if_neg c3, if_neg c4]
theorem mmore_eq (μ : Mem) {a : Nat → Int} {t x : Int} (h : Wf a t) (ht : t ≤ 2000000000) : mm_buysMore x (pl μ a) = some ((sMore a x).1, pl μ (sMore a x).2) := by
  have h8 := h.2.1
  have a52 := Wf_acc h ht 52 (by omega) (by omega)
  have a53 := Wf_acc h ht 53 (by omega) (by omega)
  have a56 := Wf_acc h ht 56 (by omega) (by omega)
  rw [mm_buysMore, pfind μ h, sb]
  by_cases c1 : fnd a x = -5
  · rw [if_pos c1, sMore, if_pos c1]
  · have b1 := fnd_b (a := a) x h8.1
    rw [if_neg c1, pmixIn μ (by omega) (by omega), sb]
    by_cases c4 : mixA a (fnd a x) = 0
    · rw [if_pos c4, sMore, if_neg c1, if_pos c4]
    · have m1 := mixA_M h (k := fnd a x) (by omega) (by omega)
      have m3 := mx_isM (mixA a (fnd a x)) (mixA a (fnd a x))
      have u1 := un_b (mixA a (fnd a x))
      have u3 := un_b (mx (mixA a (fnd a x)) (mixA a (fnd a x)))
      have hpr := prc_b h.1 (mixA a (fnd a x))
      rw [if_neg c4, mixed_eq m1 m1, sb, w10 (by omega) (by omega), aput_eq (by omega) (by omega), sb, mst_pl1, units_eq m1, sb, bnd_eq, pl_1', n10 (by omega), up_ne (by omega), w32_eq (x := a 52 + un (mixA a (fnd a x))) (by omega) (by omega), mst_pl1]
      have hp2 : prc (up (up a (10 + 2 * (fnd a x).toNat) (mx (mixA a (fnd a x)) (mixA a (fnd a x)))) 52 (a 52 + un (mixA a (fnd a x)))) (mixA a (fnd a x)) = prc a (mixA a (fnd a x)) := prc_cong (fun j hj => by rw [up_ne (by omega), up_ne (by omega)]) _
      rw [pprice μ (fun j hj => by rw [up_ne (by omega), up_ne (by omega)]; exact h.1 j hj) m1, sb, hp2, bnd_eq, pl_1', up_ne (by omega), up_ne (by omega), w32_eq (x := a 56 + prc a (mixA a (fnd a x))) (by omega) (by omega), mst_pl1, sb, units_eq m3, sb, bnd_eq, pl_1', up_ne (by omega), up_ne (by omega), up_ne (by omega), w32_eq (x := 2 * un (mixA a (fnd a x))) (by omega) (by omega), w32_eq (x := 2 * un (mixA a (fnd a x)) - un (mx (mixA a (fnd a x)) (mixA a (fnd a x)))) (by omega) (by omega), w32_eq (by omega) (by omega), mst_pl1, sMore, if_neg c1, if_neg c4]
theorem mrules_eq (μ : Mem) {a : Nat → Int} {t x : Int} (h : Wf a t) : mm_rules x (pl μ a) = some ((sRule a x).1, pl μ (sRule a x).2) := by
  have h34 := h.2.2.2.2.1
  rw [mm_rules, sRule, pl_1']
  by_cases c : a 34 = 8
  · rw [if_pos c, if_pos c]
  · rw [if_neg c, if_neg c, w32_eq (x := 35 + a 34) (by omega) (by omega), aput_eq (by omega) (by omega), sb, mst_pl1, bnd_eq, pl_1', up_ne (by omega), w32_eq (by omega) (by omega), mst_pl1, show (35 + a 34).toNat = 35 + (a 34).toNat by omega]
theorem mwants_eq (μ : Mem) {a : Nat → Int} {t x : Int} (h : Wf a t) : mm_wants x (pl μ a) = some ((sWant a x).1, pl μ (sWant a x).2) := by
  have h43 := h.2.2.2.2.2.2.1
  rw [mm_wants, sWant, pl_1']
  by_cases c : a 43 = 8
  · rw [if_pos c, if_pos c]
  · rw [if_neg c, if_neg c, w32_eq (x := 44 + a 43) (by omega) (by omega), aput_eq (by omega) (by omega), sb, mst_pl1, bnd_eq, pl_1', up_ne (by omega), w32_eq (by omega) (by omega), mst_pl1, show (44 + a 43).toNat = 44 + (a 43).toNat by omega, pl_1', up_same]
theorem mdr_lp {μ : Mem} {a : Nat → Int} {k m : Int} (hk : 0 ≤ k ∧ k ≤ m) (hm : m ≤ 7) (j : Nat) : ∀ (n : Nat) (i : Int) (b : Nat → Int), i + j = m → k ≤ i → j < n → b 34 = m → (∀ q : Nat, b q = if q = 34 then m else if 35 + k ≤ (q : Int) ∧ (q : Int) < 35 + i then a (q + 1) else a q) →
    mm_drops_32 n i (pl μ b) = some (0, pl μ (fun q => if q = 34 then m else if 35 + k ≤ (q : Int) ∧ (q : Int) < 35 + m then a (q + 1) else if (q : Int) = 35 + m then 0 else a q)) := by
  induction j with
  | zero =>
    intro n i b hi hki hn h34 hb
    obtain ⟨n, rfl⟩ : ∃ m, n = m + 1 := ⟨n - 1, by omega⟩
    rw [mm_drops_32, pl_1', h34, if_pos (by omega), mm_drops_69, pl_1', h34, w32_eq (x := 35 + m) (by omega) (by omega), aput_eq (by omega) (by omega), sb, mst_pl1]
    congr 3
    funext q
    unfold up
    by_cases c1 : q = (35 + m).toNat
    · rw [if_pos c1, if_neg (by omega), if_neg (by omega), if_pos (by omega)]
    · rw [if_neg c1, hb q]
      by_cases c3 : q = 34
      · rw [if_pos c3, if_pos c3]
      · rw [if_neg c3, if_neg c3]
        by_cases c4 : 35 + k ≤ (q : Int) ∧ (q : Int) < 35 + i
        · rw [if_pos c4, if_pos (by omega)]
        · rw [if_neg c4, if_neg (by omega), if_neg (by omega)]
  | succ j ih =>
    intro n i b hi hki hn h34 hb
    obtain ⟨n, rfl⟩ : ∃ m, n = m + 1 := ⟨n - 1, by omega⟩
    have hr : b (36 + i).toNat = a (i.toNat + 36) := by
      rw [hb, if_neg (by omega), if_neg (by omega), show (36 + i).toNat = i.toNat + 36 by omega]
    have e1 : w32 (w32 (35 + i) + 1) = 36 + i := by rw [w32_eq (x := 35 + i) (by omega) (by omega), w32_eq (by omega) (by omega)]; omega
    rw [mm_drops_32, pl_1', h34, if_neg (by omega), e1, aget_eq (by omega) (by omega), sb, pl_1', hr, w32_eq (x := 35 + i) (by omega) (by omega), aput_eq (by omega) (by omega), sb, mst_pl1, bnd_eq, w32_eq (x := i + 1) (by omega) (by omega)]
    refine ih n (i + 1) _ (by omega) (by omega) (by omega) (by rw [up_ne (by omega)]; exact h34) (fun q => ?_)
    unfold up
    by_cases c1 : q = (35 + i).toNat
    · subst c1
      rw [if_pos rfl, if_neg (by omega), if_pos (by omega), show (35 + i).toNat + 1 = i.toNat + 36 by omega]
    · rw [if_neg c1, hb q]
      by_cases c3 : q = 34
      · rw [if_pos c3, if_pos c3]
      · rw [if_neg c3, if_neg c3]
        by_cases c4 : 35 + k ≤ (q : Int) ∧ (q : Int) < 35 + i
        · rw [if_pos c4, if_pos (by omega)]
        · rw [if_neg c4, if_neg (by omega)]
theorem mdrops_eq (μ : Mem) {a : Nat → Int} {t x : Int} (h : Wf a t) : mm_drops x (pl μ a) = some ((sDrop a x).1, pl μ (sDrop a x).2) := by
  have h34 := h.2.2.2.2.1
  rw [mm_drops, pl_1', in_eq, sb, sDrop, w32_eq (x := a 34 - 1) (by omega) (by omega)]
  by_cases c : 0 ≤ x ∧ x < a 34
  · rw [if_pos c, if_pos (show 0 ≤ x ∧ x ≤ a 34 - 1 by omega), if_neg (by decide), bnd_eq, mst_pl1]
    have := mdr_lp (μ := μ) (a := a) (k := x) (m := a 34 - 1) ⟨c.1, by omega⟩ (by omega) (a 34 - 1 - x).toNat FU x (up a 34 (a 34 - 1)) (by omega) (by omega) (by have := FU_ge; omega) (up_same _ _ _) (fun q => by
      unfold up
      by_cases c : q = 34
      · rw [if_pos c, if_pos c]
      · rw [if_neg c, if_neg c, if_neg (by omega)])
    rw [this]
    rfl
  · rw [if_neg c, if_neg (show ¬ (0 ≤ x ∧ x ≤ a 34 - 1) by omega), if_pos rfl]
theorem pdropJar (μ : Mem) {a : Nat → Int} {k : Int} (h8 : a 8 ≤ 12) (hk : 0 ≤ k ∧ k < a 8) : mm_dropJar k (pl μ a) = some (pl μ (drp a k)) := by
  have := mdropJar_eq (μ := pl μ a) (k := k) (by rw [pl_1']; exact h8) (by rw [pl_1']; exact hk)
  rwa [pl_1, pl_pl] at this
