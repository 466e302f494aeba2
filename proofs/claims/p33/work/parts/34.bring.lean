/-! rows stay well, again; jars come, rules and wants come, prices, sales: in the class -/
section WF2
variable {a : Nat → Int} {t u : Int}
theorem Wf_rul (h : Wf a t) {k : Nat} (hk : k < 8) {v : Int} (hv : isM v) : Wf (up a (35 + k) v) t := by
  obtain ⟨h1, h2, h3, h4, h5, h6, h7, h8, h9⟩ := h
  have e8 : up a (35 + k) v 8 = a 8 := up_ne (by omega)
  have e34 : up a (35 + k) v 34 = a 34 := up_ne (by omega)
  have e43 : up a (35 + k) v 43 = a 43 := up_ne (by omega)
  unfold Wf
  rw [e8, e34, e43]
  refine ⟨fun j hj => ?_, h2, fun q hq => ?_, ?_, h5, fun q hq => ?_, h7, fun q hq => ?_, fun q hq => ?_⟩
  · rw [up_ne (by omega)]; exact h1 j hj
  · rw [up_ne (by omega), up_ne (by omega)]; exact h3 q hq
  · rw [up_ne (by omega)]; exact h4
  · by_cases c : q = k
    · subst c; rw [up_same]; exact hv
    · rw [up_ne (by omega)]; exact h6 q hq
  · rw [up_ne (by omega)]; exact h8 q hq
  · rw [up_ne (by omega)]; exact h9 q hq
theorem Wf_wan (h : Wf a t) {k : Nat} (hk : k < 8) {v : Int} (hv : isM v) : Wf (up a (44 + k) v) t := by
  obtain ⟨h1, h2, h3, h4, h5, h6, h7, h8, h9⟩ := h
  have e8 : up a (44 + k) v 8 = a 8 := up_ne (by omega)
  have e34 : up a (44 + k) v 34 = a 34 := up_ne (by omega)
  have e43 : up a (44 + k) v 43 = a 43 := up_ne (by omega)
  unfold Wf
  rw [e8, e34, e43]
  refine ⟨fun j hj => ?_, h2, fun q hq => ?_, ?_, h5, fun q hq => ?_, h7, fun q hq => ?_, fun q hq => ?_⟩
  · rw [up_ne (by omega)]; exact h1 j hj
  · rw [up_ne (by omega), up_ne (by omega)]; exact h3 q hq
  · rw [up_ne (by omega)]; exact h4
  · rw [up_ne (by omega)]; exact h6 q hq
  · by_cases c : q = k
    · subst c; rw [up_same]; exact hv
    · rw [up_ne (by omega)]; exact h8 q hq
  · rw [up_ne (by omega)]; exact h9 q hq
theorem Wf_c8 (h : Wf a t) (hv : a 8 + 1 ≤ 12) (hm : isM (a (10 + 2 * (a 8).toNat))) (hn : 0 ≤ a (9 + 2 * (a 8).toNat)) : Wf (up a 8 (a 8 + 1)) t := by
  have w8 := h.2.1
  have w33 := h.2.2.2.1
  have w34 := h.2.2.2.2.1
  have w43 := h.2.2.2.2.2.2.1
  obtain ⟨h1, h2, h3, h4, h5, h6, h7, h8, h9⟩ := h
  have e8 : up a 8 (a 8 + 1) 8 = a 8 + 1 := up_same _ _ _
  have e33 : up a 8 (a 8 + 1) 33 = a 33 := up_ne (by omega)
  have e34 : up a 8 (a 8 + 1) 34 = a 34 := up_ne (by omega)
  have e43 : up a 8 (a 8 + 1) 43 = a 43 := up_ne (by omega)
  unfold Wf
  rw [e8, e33, e34, e43]
  refine ⟨fun j hj => ?_, by omega, fun q hq => ?_, by omega, by omega, fun q hq => ?_, by omega, fun q hq => ?_, fun q hq => ?_⟩
  · rw [up_ne (by omega)]; exact h1 j hj
  · rw [up_ne (by omega), up_ne (by omega)]
    by_cases c : (q : Int) < a 8
    · exact h3 q c
    · rw [show q = (a 8).toNat by omega]; exact ⟨hm, hn⟩
  · rw [up_ne (by omega)]; exact h6 q hq
  · rw [up_ne (by omega)]; exact h8 q hq
  · rw [up_ne (by omega)]; exact h9 q hq
theorem Wf_c33 (h : Wf a t) (hv : a 33 + 1 ≤ 200) : Wf (up a 33 (a 33 + 1)) t := by
  have w8 := h.2.1
  have w33 := h.2.2.2.1
  have w34 := h.2.2.2.2.1
  have w43 := h.2.2.2.2.2.2.1
  obtain ⟨h1, h2, h3, h4, h5, h6, h7, h8, h9⟩ := h
  have e8 : up a 33 (a 33 + 1) 8 = a 8 := up_ne (by omega)
  have e33 : up a 33 (a 33 + 1) 33 = a 33 + 1 := up_same _ _ _
  have e34 : up a 33 (a 33 + 1) 34 = a 34 := up_ne (by omega)
  have e43 : up a 33 (a 33 + 1) 43 = a 43 := up_ne (by omega)
  unfold Wf
  rw [e8, e33, e34, e43]
  refine ⟨fun j hj => ?_, by omega, fun q hq => ?_, by omega, by omega, fun q hq => ?_, by omega, fun q hq => ?_, fun q hq => ?_⟩
  · rw [up_ne (by omega)]; exact h1 j hj
  · rw [up_ne (by omega), up_ne (by omega)]; exact h3 q hq
  · rw [up_ne (by omega)]; exact h6 q hq
  · rw [up_ne (by omega)]; exact h8 q hq
  · rw [up_ne (by omega)]; exact h9 q hq
theorem Wf_c34 (h : Wf a t) (hv : a 34 + 1 ≤ 8) (hm : isM (a (35 + (a 34).toNat))) : Wf (up a 34 (a 34 + 1)) t := by
  have w8 := h.2.1
  have w33 := h.2.2.2.1
  have w34 := h.2.2.2.2.1
  have w43 := h.2.2.2.2.2.2.1
  obtain ⟨h1, h2, h3, h4, h5, h6, h7, h8, h9⟩ := h
  have e8 : up a 34 (a 34 + 1) 8 = a 8 := up_ne (by omega)
  have e33 : up a 34 (a 34 + 1) 33 = a 33 := up_ne (by omega)
  have e34 : up a 34 (a 34 + 1) 34 = a 34 + 1 := up_same _ _ _
  have e43 : up a 34 (a 34 + 1) 43 = a 43 := up_ne (by omega)
  unfold Wf
  rw [e8, e33, e34, e43]
  refine ⟨fun j hj => ?_, by omega, fun q hq => ?_, by omega, by omega, fun q hq => ?_, by omega, fun q hq => ?_, fun q hq => ?_⟩
  · rw [up_ne (by omega)]; exact h1 j hj
  · rw [up_ne (by omega), up_ne (by omega)]; exact h3 q hq
  · rw [up_ne (by omega)]
    by_cases c : (q : Int) < a 34
    · exact h6 q c
    · rw [show q = (a 34).toNat by omega]; exact hm
  · rw [up_ne (by omega)]; exact h8 q hq
  · rw [up_ne (by omega)]; exact h9 q hq
theorem Wf_c43 (h : Wf a t) (hv : a 43 + 1 ≤ 8) (hm : isM (a (44 + (a 43).toNat))) : Wf (up a 43 (a 43 + 1)) t := by
  have w8 := h.2.1
  have w33 := h.2.2.2.1
  have w34 := h.2.2.2.2.1
  have w43 := h.2.2.2.2.2.2.1
  obtain ⟨h1, h2, h3, h4, h5, h6, h7, h8, h9⟩ := h
  have e8 : up a 43 (a 43 + 1) 8 = a 8 := up_ne (by omega)
  have e33 : up a 43 (a 43 + 1) 33 = a 33 := up_ne (by omega)
  have e34 : up a 43 (a 43 + 1) 34 = a 34 := up_ne (by omega)
  have e43 : up a 43 (a 43 + 1) 43 = a 43 + 1 := up_same _ _ _
  unfold Wf
  rw [e8, e33, e34, e43]
  refine ⟨fun j hj => ?_, by omega, fun q hq => ?_, by omega, by omega, fun q hq => ?_, by omega, fun q hq => ?_, fun q hq => ?_⟩
  · rw [up_ne (by omega)]; exact h1 j hj
  · rw [up_ne (by omega), up_ne (by omega)]; exact h3 q hq
  · rw [up_ne (by omega)]; exact h6 q hq
  · rw [up_ne (by omega)]
    by_cases c : (q : Int) < a 43
    · exact h8 q c
    · rw [show q = (a 43).toNat by omega]; exact hm
  · rw [up_ne (by omega)]; exact h9 q hq
end WF2
theorem Wf_w3 {a : Nat → Int} {t : Int} (w : Wf a t) : 0 ≤ a 8 ∧ 0 ≤ a 34 ∧ 0 ≤ a 43 := ⟨w.2.1.1, w.2.2.2.2.1.1, w.2.2.2.2.2.2.1.1⟩
theorem Wf_sComes {a : Nat → Int} {t m u p : Int} (w : Wf a t) (h0 : 0 ≤ t) (hm : isM m) (hu : 0 ≤ u ∧ u ≤ 1000) (hp : 0 ≤ p ∧ p ≤ 100000) : Wf (sComes a m u p).2 (t + 100000) := by
  have h8 := w.2.1
  have h33 := w.2.2.2.1
  have u1 := un_b m
  have a52 := ab w 52 (by omega) (by omega)
  have a53 := ab w 53 (by omega) (by omega)
  have a56 := ab w 56 (by omega) (by omega)
  rw [sComes]
  by_cases c : a 8 = 12 ∨ a 33 = 200
  · rw [if_pos c]; exact Wf_mono w (by omega)
  · rw [if_neg c]
    have w1 : Wf (up a (9 + 2 * (a 8).toNat) (a 33)) t := Wf_num w (by omega) (by omega)
    have w2 := Wf_mix w1 (k := (a 8).toNat) (by omega) hm
    have e8 : up (up a (9 + 2 * (a 8).toNat) (a 33)) (10 + 2 * (a 8).toNat) m 8 = a 8 := by rw [up_ne (by omega), up_ne (by omega)]
    have e33 : up (up (up a (9 + 2 * (a 8).toNat) (a 33)) (10 + 2 * (a 8).toNat) m) 8 (a 8 + 1) 33 = a 33 := by rw [up_ne (by omega), up_ne (by omega), up_ne (by omega)]
    have w3 := Wf_c8 w2 (by rw [e8]; omega) (by rw [e8, up_same]; exact hm) (by rw [e8, up_ne (by omega), up_same]; omega)
    rw [e8] at w3
    have w4 := Wf_c33 w3 (by rw [e33]; omega)
    rw [e33] at w4
    exact Wf_acu (Wf_acu (Wf_acu w4 (u := t + 1000) (by omega) (by omega) (by omega)) (u := t + 100000) (by omega) (by omega) (by omega)) (by omega) (by omega) (by omega)
/-! amounts -/
def mS (A : Nat → Int) : Nat → Int
  | 0 => 0
  | k + 1 => mS A k + A k % 3 * p3 k
def uS (A : Nat → Int) : Nat → Int
  | 0 => 0
  | k + 1 => uS A k + A k
def pS (p A : Nat → Int) : Nat → Int
  | 0 => 0
  | k + 1 => pS p A k + A k * p k
theorem mS_b (A : Nat → Int) (k : Nat) : 0 ≤ mS A k ∧ mS A k < p3 k := by
  induction k with
  | zero => exact ⟨Int.le_refl 0, show (0 : Int) < 1 by decide⟩
  | succ k ih =>
    have hp := p3_pos k
    rw [mS, p3]
    rcases (show A k % 3 = 0 ∨ A k % 3 = 1 ∨ A k % 3 = 2 by omega) with e | e | e <;> rw [e] <;> omega
theorem uS_b {A : Nat → Int} (h : ∀ j, j < 8 → 0 ≤ A j ∧ A j ≤ 300) (k : Nat) (hk : k ≤ 8) : 0 ≤ uS A k ∧ uS A k ≤ 300 * k := by
  induction k with
  | zero => exact ⟨Int.le_refl 0, by simp [uS]⟩
  | succ k ih =>
    have := ih (by omega)
    have := h k (by omega)
    rw [uS]; omega
theorem aP_b {x p : Int} (hx : 0 ≤ x ∧ x ≤ 300) (hp : 0 ≤ p ∧ p ≤ 99) : 0 ≤ x * p ∧ x * p ≤ 29700 := ⟨Int.mul_nonneg hx.1 hp.1, by
  have h1 : x * p ≤ 300 * p := Int.mul_le_mul_of_nonneg_right hx.2 hp.1
  omega⟩
theorem pS_b {p A : Nat → Int} (h : ∀ j, j < 8 → 0 ≤ A j ∧ A j ≤ 300) (hp : okP p) (k : Nat) (hk : k ≤ 8) : 0 ≤ pS p A k ∧ pS p A k ≤ 29700 * k := by
  induction k with
  | zero => exact ⟨Int.le_refl 0, by simp [pS]⟩
  | succ k ih =>
    have := ih (by omega)
    have := aP_b (h k (by omega)) (hp k (by omega))
    rw [pS]; omega
theorem xbuL62_eq {μ : Mem} {a A : Nat → Int} (hA : ∀ j, j < 8 → μ 62 j = A j) (bA : ∀ j, j < 8 → 0 ≤ A j ∧ A j ≤ 300) (hp : okP a) (ep : ∀ j, j < 8 → μ 14 j = a j) (j : Nat) : ∀ (k n : Nat), k + j = 8 → j < n → xa_bringUnits_23 n (mS A k) (uS A k) (pS a A k) k μ = xa_bringUnits_79 (mS A 8) (uS A 8) (pS a A 8) μ := by
  induction j with
  | zero =>
    intro k n hk hn
    obtain ⟨n, rfl⟩ : ∃ m, n = m + 1 := ⟨n - 1, by omega⟩
    have : k = 8 := by omega
    subst this
    rw [xa_bringUnits_23, if_pos (by decide)]
  | succ j ih =>
    intro k n hk hn
    obtain ⟨n, rfl⟩ : ∃ m, n = m + 1 := ⟨n - 1, by omega⟩
    have b := bA k (by omega)
    have hm := mS_b A (k + 1)
    have hm0 := mS_b A k
    have hp1 := p3_le (k := k) (by omega)
    have hp2 : p3 (k + 1) ≤ 6561 := by rw [p3]; omega
    have hu := uS_b bA (k + 1) (by omega)
    have hq := pS_b bA hp (k + 1) (by omega)
    have hx := aP_b b (hp k (by omega))
    rw [mS] at hm
    rw [uS] at hu
    rw [pS] at hq
    have e3 : w32 ((k : Int) + 1) = ((k + 1 : Nat) : Int) := by rw [w32_eq (by omega) (by omega)]; omega
    rw [xa_bringUnits_23, if_neg (by omega), aget_eq (by omega) (by omega), sb, pget_eq (by omega), sb, Int.toNat_natCast, hA k (by omega), tmE b.1, w32_eq (x := A k % 3 * p3 k) (by omega) (by omega), w32_eq (x := mS A k + A k % 3 * p3 k) (by omega) (by omega), bnd_eq, sb, w32_eq (x := uS A k + A k) (by omega) (by omega), bnd_eq, sb, aget_eq (by omega) (by omega), sb, Int.toNat_natCast, ep k (by omega), w32_eq (x := A k * a k) (by omega) (by omega), w32_eq (x := pS a A k + A k * a k) (by omega) (by omega), bnd_eq, bnd_eq, e3]
    exact ih (k + 1) n (by omega) (by omega)
theorem xbu7962_eq {μ : Mem} {a : Nat → Int} {t m u p : Int} (h : SRel a μ 10) (w : Wf a t) (h0 : 0 ≤ t) (ht : t ≤ 1000000000) (hm : isM m) (hu : 0 ≤ u ∧ u ≤ 1000) (hp : 0 ≤ p ∧ p ≤ 100000) (c : ¬ (a 8 = 12 ∨ a 33 = 200)) : ∃ μ', xa_bringUnits_79 m u p μ = some ((sComes a m u p).1, μ') ∧ SRel (sComes a m u p).2 μ' 10 ∧ fr μ μ' := by
  have h8 := w.2.1
  have h33 := w.2.2.2.1
  have u1 := un_b m
  have t52 := ab w 52 (by omega) (by omega)
  have t53 := ab w 53 (by omega) (by omega)
  have t56 := ab w 56 (by omega) (by omega)
  rw [xa_bringUnits_79, bnd_eq, show μ 16 0 = a 52 from sacc h (by omega), w32_eq (by omega) (by omega), bnd_eq, mst_ix (by decide), show μ 16 4 = a 56 from sacc h (by omega), w32_eq (by omega) (by omega), xunits_eq hm, sb, bnd_eq, mst_ix (by decide), mst_ix (by decide), show μ 16 1 = a 53 from sacc h (by omega), w32_eq (x := u - un m) (by omega) (by omega), w32_eq (by omega) (by omega), xs_addJar]
  have g1 : SRel (up a 52 (a 52 + u)) (mst μ 16 0 (a 52 + u)) 10 := srel_acc h (wf3 w) (k := 0) (by omega) _
  have v1 : Wf (up a 52 (a 52 + u)) (t + 1000) := Wf_acu w (by omega) (by omega) (by omega)
  have g2 : SRel (up (up a 52 (a 52 + u)) 56 (a 56 + p)) (mst (mst μ 16 0 (a 52 + u)) 16 4 (a 56 + p)) 10 := srel_acc g1 (wf3 v1) (k := 4) (by omega) _
  have v2 : Wf (up (up a 52 (a 52 + u)) 56 (a 56 + p)) (t + 100000) := Wf_acu v1 (by omega) (by omega) (by omega)
  have g3 : SRel (up (up (up a 52 (a 52 + u)) 56 (a 56 + p)) 53 (a 53 + (u - un m))) (mst (mst (mst μ 16 0 (a 52 + u)) 16 4 (a 56 + p)) 16 1 (a 53 + (u - un m))) 10 := srel_acc g2 (wf3 v2) (k := 1) (by omega) _
  have v3 : Wf (up (up (up a 52 (a 52 + u)) 56 (a 56 + p)) 53 (a 53 + (u - un m))) (t + 100000) := Wf_acu v2 (by omega) (by omega) (by omega)
  have f3 : fr μ (mst (mst (mst μ 16 0 (a 52 + u)) 16 4 (a 56 + p)) 16 1 (a 53 + (u - un m))) := fr_mst (fr_mst (fr_mst (fr_rf μ) (by omega)) (by omega)) (by omega)
  have e8 : (mst (mst (mst μ 16 0 (a 52 + u)) 16 4 (a 56 + p)) 16 1 (a 53 + (u - un m))) 10 2 = a 8 := by rw [mst_pl (by decide), mst_pl (by decide), mst_pl (by decide)]; exact h.1
  have e33 : (mst (mst (mst μ 16 0 (a 52 + u)) 16 4 (a 56 + p)) 16 1 (a 53 + (u - un m))) 10 3 = a 33 := by rw [mst_pl (by decide), mst_pl (by decide), mst_pl (by decide)]; exact h.2.1
  have r8 : (up (up (up a 52 (a 52 + u)) 56 (a 56 + p)) 53 (a 53 + (u - un m))) 8 = a 8 := by rw [up_ne (by omega), up_ne (by omega), up_ne (by omega)]
  have r33 : (up (up (up a 52 (a 52 + u)) 56 (a 56 + p)) 53 (a 53 + (u - un m))) 33 = a 33 := by rw [up_ne (by omega), up_ne (by omega), up_ne (by omega)]
  have hR : ∀ j, (sComes a m u p).2 j = up (up (up (up (up (up (up a 52 (a 52 + u)) 56 (a 56 + p)) 53 (a 53 + (u - un m))) (9 + 2 * (a 8).toNat) (a 33)) (10 + 2 * (a 8).toNat) m) 8 (a 8 + 1)) 33 (a 33 + 1) j := by
    intro j
    rw [sComes, if_neg c]
    dsimp only
    unfold up
    by_cases c1 : j = 53
    · rw [if_pos c1, if_neg (by omega), if_neg (by omega), if_neg (by omega), if_neg (by omega), if_pos c1]
    · by_cases c2 : j = 56
      · rw [if_neg c1, if_pos c2, if_neg (by omega), if_neg (by omega), if_neg (by omega), if_neg (by omega), if_neg c1, if_pos c2]
      · by_cases c3 : j = 52
        · rw [if_neg c1, if_neg c2, if_pos c3, if_neg (by omega), if_neg (by omega), if_neg (by omega), if_neg (by omega), if_neg c1, if_neg c2, if_pos c3]
        · rw [if_neg c1, if_neg c2, if_neg c3, if_neg c1, if_neg c2, if_neg c3]
  generalize (sComes a m u p).2 = R at hR
  have s1 : (sComes a m u p).1 = a 33 := by rw [sComes, if_neg c]
  rw [s1]
  generalize hμ : mst (mst (mst μ 16 0 (a 52 + u)) 16 4 (a 56 + p)) 16 1 (a 53 + (u - un m)) = ν at g3 f3 e8 e33 ⊢
  generalize hr : up (up (up a 52 (a 52 + u)) 56 (a 56 + p)) 53 (a 53 + (u - un m)) = b at g3 v3 hR r8 r33
  rw [e8, e33, aput_eq (by omega) (by omega), sb, mst_pl (by decide), e8, aput_eq (by omega) (by omega), sb, bnd_eq, mst_pl (by decide), mst_pl (by decide), e8, w32_eq (by omega) (by omega), bnd_eq, mst_ix (by decide), mst_pl (by decide), mst_pl (by decide), e33, w32_eq (by omega) (by omega), sb]
  have g4 := srel_num g3 (wf3 v3) (k := (a 8).toNat) (by omega) (a 33)
  have v4 : Wf (up b (9 + 2 * (a 8).toNat) (a 33)) (t + 100000) := Wf_num v3 (by omega) (by omega)
  have g5 := srel_mix g4 (wf3 v4) (k := (a 8).toNat) (by omega) m
  have v5 := Wf_mix v4 (k := (a 8).toNat) (by omega) hm
  have q8 : up (up b (9 + 2 * (a 8).toNat) (a 33)) (10 + 2 * (a 8).toNat) m 8 = a 8 := by rw [up_ne (by omega), up_ne (by omega), r8]
  have q33 : up (up (up b (9 + 2 * (a 8).toNat) (a 33)) (10 + 2 * (a 8).toNat) m) 8 (a 8 + 1) 33 = a 33 := by rw [up_ne (by omega), up_ne (by omega), up_ne (by omega), r33]
  have g6 := srel_jars g5 (wf3 v5) (v := a 8 + 1) (fun k k0 k1 => by
    rw [q8] at k0
    have : k = (a 8).toNat := by omega
    subst this
    rw [mst_pl (by decide), mst_same, mst_same, up_ne (by omega), up_same, up_same]
    exact ⟨rfl, rfl⟩) (by omega)
  have v6 := Wf_c8 v5 (by rw [q8]; omega) (by rw [q8, up_same]; exact hm) (by rw [q8, up_ne (by omega), up_same]; omega)
  rw [q8] at v6
  have g7 := srel_came g6 (wf3 v6) (a 33 + 1)
  have v7 := Wf_c33 v6 (by rw [q33]; omega)
  rw [q33] at v7
  refine ⟨_, rfl, SRel_cong g7 (fun j _ => hR j) (wf3 v7), fun p q hp => ?_⟩
  dsimp only
  rw [mst_pl (by omega), mst_pl (by omega), mst_pl (by omega), mst_pl (by omega), f3 p q hp]
theorem xbringU62_eq {μ : Mem} {a A : Nat → Int} {t : Int} (hA : ∀ j, j < 8 → μ 62 j = A j) (bA : ∀ j, j < 8 → 0 ≤ A j ∧ A j ≤ 300) (hU : uS A 8 ≤ 1000) (hP : pS a A 8 ≤ 100000) (h : SRel a μ 10) (w : Wf a t) (h0 : 0 ≤ t) (ht : t ≤ 1000000000) : ∃ μ', xa_bringUnits μ = some ((sComes a (mS A 8) (uS A 8) (pS a A 8)).1, μ') ∧ SRel (sComes a (mS A 8) (uS A 8) (pS a A 8)).2 μ' 10 ∧ fr μ μ' := by
  have h8 := w.2.1
  have h33 := w.2.2.2.1
  rw [xa_bringUnits, xs_hasRoomForJar, h.1, h.2.1]
  by_cases c1 : a 8 = 12
  · rw [if_pos (by omega), xs_hasRoomForJar_23, xs_hasRoomForJar_24, if_pos (Or.inl rfl), sb, if_pos rfl, sComes, if_pos (Or.inl c1)]
    exact ⟨μ, rfl, h, fr_rf μ⟩
  · rw [if_neg (by omega)]
    by_cases c2 : a 33 = 200
    · rw [if_pos (by omega), xs_hasRoomForJar_23, xs_hasRoomForJar_24, if_pos (Or.inl rfl), sb, if_pos rfl, sComes, if_pos (Or.inr c2)]
      exact ⟨μ, rfl, h, fr_rf μ⟩
    · rw [if_neg (by omega), xs_hasRoomForJar_24, if_pos (Or.inr rfl), sb, if_neg (by decide)]
      have hl := xbuL62_eq hA bA w.1 (fun j hj => h.2.2.2.2.2.2.1 j hj) 8 0 FU (by omega) (by have := FU_ge; omega)
      have hb := uS_b bA 8 (by omega)
      have hc := pS_b bA w.1 8 (by omega)
      rw [show mS A 0 = 0 from rfl, show uS A 0 = 0 from rfl, show pS a A 0 = 0 from rfl] at hl
      rw [show ((0 : Nat) : Int) = 0 from rfl] at hl
      rw [hl]
      exact xbu7962_eq h w h0 ht (mS_b A 8) (by omega) (by omega) (fun z => z.elim c1 c2)
