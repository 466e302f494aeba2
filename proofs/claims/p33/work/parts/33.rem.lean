/-! a jar, a rule, the first want goes: in the class too -/
theorem drp_j {a : Nat → Int} {k : Int} (hk : 0 ≤ k ∧ k < a 8) (h12 : a 8 ≤ 12) (q : Nat) (hq : (q : Int) < a 8 - 1) : drp a k (9 + 2 * q) = (if k ≤ (q : Int) then a (9 + 2 * (q + 1)) else a (9 + 2 * q)) ∧ drp a k (10 + 2 * q) = (if k ≤ (q : Int) then a (10 + 2 * (q + 1)) else a (10 + 2 * q)) := by
  unfold drp
  by_cases c : k ≤ (q : Int)
  · rw [if_neg (by omega), if_pos (by omega), if_pos c, if_neg (by omega), if_pos (by omega), if_pos c]
    exact ⟨congrArg a (by omega), congrArg a (by omega)⟩
  · rw [if_neg (by omega), if_neg (by omega), if_neg (by omega), if_neg c, if_neg (by omega), if_neg (by omega), if_neg (by omega), if_neg c]
    exact ⟨rfl, rfl⟩
theorem drp_o {a : Nat → Int} {k : Int} (hk : 0 ≤ k ∧ k < a 8) (h12 : a 8 ≤ 12) {j : Nat} (hj : j < 8 ∨ 33 ≤ j) : drp a k j = a j := by
  unfold drp
  rw [if_neg (by omega), if_neg (by omega), if_neg (by omega)]
theorem drp_8 (a : Nat → Int) (k : Int) : drp a k 8 = a 8 - 1 := by
  unfold drp
  rw [if_pos rfl]
theorem Wf_drp {a : Nat → Int} {t k : Int} (w : Wf a t) (hk : 0 ≤ k ∧ k < a 8) : Wf (drp a k) t := by
  have h12 := w.2.1.2
  have o : ∀ j, (j < 8 ∨ 33 ≤ j) → drp a k j = a j := fun j hj => drp_o hk h12 hj
  obtain ⟨h1, h2, h3, h4, h5, h6, h7, h8, h9⟩ := w
  unfold Wf
  rw [drp_8, o 33 (by omega), o 34 (by omega), o 43 (by omega)]
  refine ⟨fun j hj => ?_, by omega, fun q hq => ?_, h4, h5, fun q hq => ?_, h7, fun q hq => ?_, fun q hq => ?_⟩
  · rw [o j (by omega)]; exact h1 j hj
  · rw [(drp_j hk h12 q hq).1, (drp_j hk h12 q hq).2]
    by_cases c : k ≤ (q : Int)
    · rw [if_pos c, if_pos c]; exact h3 (q + 1) (by omega)
    · rw [if_neg c, if_neg c]; exact h3 q (by omega)
  · rw [o _ (by omega)]; exact h6 q hq
  · rw [o _ (by omega)]; exact h8 q hq
  · rw [o _ (by omega)]; exact h9 q hq
theorem xrj_lp {a : Nat → Int} {k m : Int} (hk : 0 ≤ k) (hm : m ≤ 11) (j : Nat) : ∀ (n : Nat) (i : Int) (ν : Mem), i + j = m → k ≤ i → j < n → ν 10 2 = m → (∀ q : Nat, (q : Int) ≤ m → ν 11 q = (if k ≤ (q : Int) ∧ (q : Int) < i then a (9 + 2 * (q + 1)) else a (9 + 2 * q)) ∧ ν 12 q = (if k ≤ (q : Int) ∧ (q : Int) < i then a (10 + 2 * (q + 1)) else a (10 + 2 * q))) →
    ∃ ν', xs_removeJar_12 n i ν = some ν' ∧ (∀ q : Nat, (q : Int) < m → ν' 11 q = (if k ≤ (q : Int) then a (9 + 2 * (q + 1)) else a (9 + 2 * q)) ∧ ν' 12 q = (if k ≤ (q : Int) then a (10 + 2 * (q + 1)) else a (10 + 2 * q))) ∧ (∀ p q, p ≠ 11 → p ≠ 12 → ν' p q = ν p q) := by
  induction j with
  | zero =>
    intro n i ν hi hki hn h8 hb
    obtain ⟨n, rfl⟩ : ∃ m, n = m + 1 := ⟨n - 1, by omega⟩
    rw [xs_removeJar_12, if_pos (by omega), xs_removeJar_54]
    refine ⟨ν, rfl, fun q hq => ?_, fun _ _ _ _ => rfl⟩
    have := hb q (by omega)
    by_cases c : k ≤ (q : Int)
    · rw [if_pos c, if_pos c]; rw [if_pos (by omega), if_pos (by omega)] at this; exact this
    · rw [if_neg c, if_neg c]; rw [if_neg (by omega), if_neg (by omega)] at this; exact this
  | succ j ih =>
    intro n i ν hi hki hn h8 hb
    obtain ⟨n, rfl⟩ : ∃ m, n = m + 1 := ⟨n - 1, by omega⟩
    have e1 : w32 (i + 1) = i + 1 := w32_eq (by omega) (by omega)
    have hn1 := hb (i + 1).toNat (by omega)
    rw [if_neg (by omega), if_neg (by omega), show (i + 1).toNat = i.toNat + 1 by omega] at hn1
    rw [xs_removeJar_12, if_neg (by omega), e1, aget_eq (by omega) (by omega), sb, aput_eq (by omega) (by omega), sb, aget_eq (by omega) (by omega), sb, mst_pl (by decide), aput_eq (by omega) (by omega), sb, bnd_eq, show (i + 1).toNat = i.toNat + 1 by omega, hn1.1, hn1.2]
    obtain ⟨ν', e, r, f⟩ := ih n (i + 1) (mst (mst ν 11 i.toNat (a (9 + 2 * (i.toNat + 1)))) 12 i.toNat (a (10 + 2 * (i.toNat + 1)))) (by omega) (by omega) (by omega) (by rw [mst_pl (by decide), mst_pl (by decide)]; exact h8) (fun q hq => by
      by_cases c : q = i.toNat
      · subst c
        rw [mst_pl (by decide), mst_same, mst_same, if_pos (by omega), if_pos (by omega)]
        exact ⟨rfl, rfl⟩
      · rw [mst_pl (by decide), mst_ix c, mst_ix c, mst_pl (by decide)]
        have := hb q hq
        by_cases c2 : k ≤ (q : Int) ∧ (q : Int) < i
        · rw [if_pos c2, if_pos c2] at this; rw [if_pos (by omega), if_pos (by omega)]; exact this
        · rw [if_neg c2, if_neg c2] at this; rw [if_neg (by omega), if_neg (by omega)]; exact this)
    exact ⟨ν', e, r, fun p q h1 h2 => by rw [f p q h1 h2, mst_pl h2, mst_pl h1]⟩
theorem xremJar_eq {μ : Mem} {a : Nat → Int} {t k : Int} (h : SRel a μ 10) (w : Wf a t) (hk : 0 ≤ k ∧ k < a 8) : ∃ μ', xs_removeJar k μ = some μ' ∧ SRel (drp a k) μ' 10 ∧ fr μ μ' := by
  have h12 := w.2.1.2
  obtain ⟨h1, h2, h3, h4, h5, h6, h7, h8, h9⟩ := h
  have hl := xrj_lp (a := a) (k := k) (m := a 8 - 1) hk.1 (by omega) (a 8 - 1 - k).toNat FU k (mst μ 10 2 (a 8 - 1)) (by omega) (by omega) (by have := FU_ge; omega) (mst_same _ _ _ _) (fun q hq => by
    rw [mst_pl (by decide), mst_pl (by decide), if_neg (by omega), if_neg (by omega)]; exact h5 q (by omega))
  obtain ⟨μ', e, r, f⟩ := hl
  have o : ∀ j, (j < 8 ∨ 33 ≤ j) → drp a k j = a j := fun j hj => drp_o hk h12 hj
  rw [xs_removeJar, bnd_eq, h1, w32_eq (by omega) (by omega), e]
  refine ⟨μ', rfl, ⟨?_, ?_, ?_, ?_, fun q hq => ?_, fun q hq => ?_, fun q hq => ?_, fun q hq => ?_, fun q hq => ?_⟩, fun p q hp => ?_⟩
  · rw [f _ _ (by decide) (by decide), mst_same, drp_8]
  · rw [f _ _ (by decide) (by decide), mst_ix (by decide), o 33 (by omega)]; exact h2
  · rw [f _ _ (by decide) (by decide), mst_ix (by decide), o 34 (by omega)]; exact h3
  · rw [f _ _ (by decide) (by decide), mst_ix (by decide), o 43 (by omega)]; exact h4
  · rw [drp_8] at hq
    have := drp_j hk h12 q hq
    rw [this.1, this.2]; exact r q hq
  · rw [o 34 (by omega)] at hq
    rw [f _ _ (by decide) (by decide), mst_pl (by decide), o _ (by omega)]; exact h6 q hq
  · rw [f _ _ (by decide) (by decide), mst_pl (by decide), o _ (by omega)]; exact h7 q hq
  · rw [o 43 (by omega)] at hq
    rw [f _ _ (by decide) (by decide), mst_pl (by decide), o _ (by omega)]; exact h8 q hq
  · rw [f _ _ (by decide) (by decide), mst_pl (by decide), o _ (by omega)]; exact h9 q hq
  · rw [f _ _ (by omega) (by omega), mst_pl (by omega)]
/-! a rule goes -/
theorem drr_j {a : Nat → Int} {k : Int} (hk : 0 ≤ k ∧ k < a 34) (h12 : a 34 ≤ 8) (q : Nat) (hq : (q : Int) < a 34 - 1) : drr a k (35 + q) = (if k ≤ (q : Int) then a (35 + (q + 1)) else a (35 + q)) := by
  unfold drr
  by_cases c : k ≤ (q : Int)
  · rw [if_neg (by omega), if_pos (by omega), if_pos c]
    rfl
  · rw [if_neg (by omega), if_neg (by omega), if_neg (by omega), if_neg c]
theorem drr_o {a : Nat → Int} {k : Int} (hk : 0 ≤ k ∧ k < a 34) (h12 : a 34 ≤ 8) {j : Nat} (hj : j < 34 ∨ 43 ≤ j) : drr a k j = a j := by
  unfold drr
  rw [if_neg (by omega), if_neg (by omega), if_neg (by omega)]
theorem drr_34 (a : Nat → Int) (k : Int) : drr a k 34 = a 34 - 1 := by
  unfold drr
  rw [if_pos rfl]
theorem Wf_drr {a : Nat → Int} {t k : Int} (w : Wf a t) (hk : 0 ≤ k ∧ k < a 34) : Wf (drr a k) t := by
  have h12 := w.2.2.2.2.1.2
  have o : ∀ j, (j < 34 ∨ 43 ≤ j) → drr a k j = a j := fun j hj => drr_o hk h12 hj
  obtain ⟨h1, h2, h3, h4, h5, h6, h7, h8, h9⟩ := w
  unfold Wf
  rw [drr_34, o 33 (by omega), o 8 (by omega), o 43 (by omega)]
  refine ⟨fun j hj => ?_, h2, fun q hq => ?_, h4, by omega, fun q hq => ?_, h7, fun q hq => ?_, fun q hq => ?_⟩
  · rw [o j (by omega)]; exact h1 j hj
  · rw [o _ (by omega), o _ (by omega)]; exact h3 q hq
  · rw [drr_j hk h12 q hq]
    split
    · exact h6 (q + 1) (by omega)
    · exact h6 q (by omega)
  · rw [o _ (by omega)]; exact h8 q hq
  · rw [o _ (by omega)]; exact h9 q hq
theorem xrr_lp {a : Nat → Int} {k m : Int} (hk : 0 ≤ k) (hm : m ≤ 7) (j : Nat) : ∀ (n : Nat) (i : Int) (ν : Mem), i + j = m → k ≤ i → j < n → ν 10 5 = m → (∀ q : Nat, (q : Int) ≤ m → ν 13 q = (if k ≤ (q : Int) ∧ (q : Int) < i then a (35 + (q + 1)) else a (35 + q))) →
    ∃ ν', xs_removeRule_12 n i ν = some ν' ∧ (∀ q : Nat, (q : Int) < m → ν' 13 q = (if k ≤ (q : Int) then a (35 + (q + 1)) else a (35 + q))) ∧ (∀ p q, p ≠ 13 → ν' p q = ν p q) := by
  induction j with
  | zero =>
    intro n i ν hi hki hn h8 hb
    obtain ⟨n, rfl⟩ : ∃ m, n = m + 1 := ⟨n - 1, by omega⟩
    rw [xs_removeRule_12, if_pos (by omega), xs_removeRule_40]
    refine ⟨ν, rfl, fun q hq => ?_, fun _ _ _ => rfl⟩
    have := hb q (by omega)
    by_cases c : k ≤ (q : Int)
    · rw [if_pos c]; rw [if_pos (by omega)] at this; exact this
    · rw [if_neg c]; rw [if_neg (by omega)] at this; exact this
  | succ j ih =>
    intro n i ν hi hki hn h8 hb
    obtain ⟨n, rfl⟩ : ∃ m, n = m + 1 := ⟨n - 1, by omega⟩
    have e1 : w32 (i + 1) = i + 1 := w32_eq (by omega) (by omega)
    have hn1 := hb (i + 1).toNat (by omega)
    rw [if_neg (by omega), show (i + 1).toNat = i.toNat + 1 by omega] at hn1
    rw [xs_removeRule_12, if_neg (by omega), e1, aget_eq (by omega) (by omega), sb, aput_eq (by omega) (by omega), sb, bnd_eq, show (i + 1).toNat = i.toNat + 1 by omega, hn1]
    obtain ⟨ν', e, r, f⟩ := ih n (i + 1) (mst ν 13 i.toNat (a (35 + (i.toNat + 1)))) (by omega) (by omega) (by omega) (by rw [mst_pl (by decide)]; exact h8) (fun q hq => by
      by_cases c : q = i.toNat
      · subst c
        rw [mst_same, if_pos (by omega)]
      · rw [mst_ix c]
        have := hb q hq
        by_cases c2 : k ≤ (q : Int) ∧ (q : Int) < i
        · rw [if_pos c2] at this; rw [if_pos (by omega)]; exact this
        · rw [if_neg c2] at this; rw [if_neg (by omega)]; exact this)
    exact ⟨ν', e, r, fun p q h1 => by rw [f p q h1, mst_pl h1]⟩
theorem xremRule_eq {μ : Mem} {a : Nat → Int} {t k : Int} (h : SRel a μ 10) (w : Wf a t) (hk : 0 ≤ k ∧ k < a 34) : ∃ μ', xs_removeRule k μ = some μ' ∧ SRel (drr a k) μ' 10 ∧ fr μ μ' := by
  have h12 := w.2.2.2.2.1.2
  obtain ⟨h1, h2, h3, h4, h5, h6, h7, h8, h9⟩ := h
  have hl := xrr_lp (a := a) (k := k) (m := a 34 - 1) hk.1 (by omega) (a 34 - 1 - k).toNat FU k (mst μ 10 5 (a 34 - 1)) (by omega) (by omega) (by have := FU_ge; omega) (mst_same _ _ _ _) (fun q hq => by
    rw [mst_pl (by decide), if_neg (by omega)]; exact h6 q (by omega))
  obtain ⟨μ', e, r, f⟩ := hl
  have o : ∀ j, (j < 34 ∨ 43 ≤ j) → drr a k j = a j := fun j hj => drr_o hk h12 hj
  rw [xs_removeRule, bnd_eq, h3, w32_eq (by omega) (by omega), e]
  refine ⟨μ', rfl, ⟨?_, ?_, ?_, ?_, fun q hq => ?_, fun q hq => ?_, fun q hq => ?_, fun q hq => ?_, fun q hq => ?_⟩, fun p q hp => ?_⟩
  · rw [f _ _ (by decide), mst_ix (by decide), o 8 (by omega)]; exact h1
  · rw [f _ _ (by decide), mst_ix (by decide), o 33 (by omega)]; exact h2
  · rw [f _ _ (by decide), mst_same, drr_34]
  · rw [f _ _ (by decide), mst_ix (by decide), o 43 (by omega)]; exact h4
  · rw [o 8 (by omega)] at hq
    have := w.2.1.2
    rw [f _ _ (by decide), f _ _ (by decide), mst_pl (by decide), mst_pl (by decide), o _ (by omega), o _ (by omega)]; exact h5 q hq
  · rw [drr_34] at hq
    rw [drr_j hk h12 q hq]; exact r q hq
  · rw [f _ _ (by decide), mst_pl (by decide), o _ (by omega)]; exact h7 q hq
  · rw [o 43 (by omega)] at hq
    rw [f _ _ (by decide), mst_pl (by decide), o _ (by omega)]; exact h8 q hq
  · rw [f _ _ (by decide), mst_pl (by decide), o _ (by omega)]; exact h9 q hq
  · rw [f _ _ (by omega), mst_pl (by omega)]
/-! the first want goes -/
def drw (a : Nat → Int) : Nat → Int := fun j =>
  if j = 43 then a 43 - 1 else if (44 ≤ (j : Int) ∧ (j : Int) < 44 + (a 43 - 1)) then a (j + 1) else if (j : Int) = 44 + (a 43 - 1) then 0 else a j
theorem drw_j {a : Nat → Int} (hk : 0 < a 43) (h12 : a 43 ≤ 8) (q : Nat) (hq : (q : Int) < a 43 - 1) : drw a (44 + q) = a (44 + (q + 1)) := by
  unfold drw
  rw [if_neg (by omega), if_pos (by omega)]
  rfl
theorem drw_o {a : Nat → Int} (hk : 0 < a 43) (h12 : a 43 ≤ 8) {j : Nat} (hj : j < 43 ∨ 52 ≤ j) : drw a j = a j := by
  unfold drw
  rw [if_neg (by omega), if_neg (by omega), if_neg (by omega)]
theorem drw_43 (a : Nat → Int) : drw a 43 = a 43 - 1 := by
  unfold drw
  rw [if_pos rfl]
theorem Wf_drw {a : Nat → Int} {t : Int} (w : Wf a t) (hk : 0 < a 43) : Wf (drw a) t := by
  have h12 := w.2.2.2.2.2.2.1.2
  have h81 := w.2.1.2
  have h341 := w.2.2.2.2.1.2
  have o : ∀ j, (j < 43 ∨ 52 ≤ j) → drw a j = a j := fun j hj => drw_o hk h12 hj
  obtain ⟨h1, h2, h3, h4, h5, h6, h7, h8, h9⟩ := w
  unfold Wf
  rw [drw_43, o 33 (by omega), o 8 (by omega), o 34 (by omega)]
  refine ⟨fun j hj => ?_, h2, fun q hq => ?_, h4, h5, fun q hq => ?_, by omega, fun q hq => ?_, fun q hq => ?_⟩
  · rw [o j (by omega)]; exact h1 j hj
  · rw [o _ (by omega), o _ (by omega)]; exact h3 q hq
  · rw [o _ (by omega)]; exact h6 q hq
  · rw [drw_j hk h12 q hq]
    exact h8 (q + 1) (by omega)
  · rw [o _ (by omega)]; exact h9 q hq
theorem xrw_lp {a : Nat → Int} {v m : Int} (hm : m ≤ 7) (j : Nat) : ∀ (n : Nat) (i : Int) (ν : Mem), i + j = m → 0 ≤ i → j < n → ν 10 8 = m → (∀ q : Nat, (q : Int) ≤ m → ν 15 q = (if (q : Int) < i then a (44 + (q + 1)) else a (44 + q))) →
    ∃ ν', xs_removeFirstWant_19 n v i ν = some (v, ν') ∧ (∀ q : Nat, (q : Int) < m → ν' 15 q = a (44 + (q + 1))) ∧ (∀ p q, p ≠ 15 → ν' p q = ν p q) := by
  induction j with
  | zero =>
    intro n i ν hi hki hn h8 hb
    obtain ⟨n, rfl⟩ : ∃ m, n = m + 1 := ⟨n - 1, by omega⟩
    rw [xs_removeFirstWant_19, if_pos (by omega), xs_removeFirstWant_47]
    refine ⟨ν, rfl, fun q hq => ?_, fun _ _ _ => rfl⟩
    have := hb q (by omega)
    rw [if_pos (by omega)] at this; exact this
  | succ j ih =>
    intro n i ν hi hki hn h8 hb
    obtain ⟨n, rfl⟩ : ∃ m, n = m + 1 := ⟨n - 1, by omega⟩
    have e1 : w32 (i + 1) = i + 1 := w32_eq (by omega) (by omega)
    have hn1 := hb (i + 1).toNat (by omega)
    rw [if_neg (by omega), show (i + 1).toNat = i.toNat + 1 by omega] at hn1
    rw [xs_removeFirstWant_19, if_neg (by omega), e1, aget_eq (by omega) (by omega), sb, aput_eq (by omega) (by omega), sb, bnd_eq, show (i + 1).toNat = i.toNat + 1 by omega, hn1]
    obtain ⟨ν', e, r, f⟩ := ih n (i + 1) (mst ν 15 i.toNat (a (44 + (i.toNat + 1)))) (by omega) (by omega) (by omega) (by rw [mst_pl (by decide)]; exact h8) (fun q hq => by
      by_cases c : q = i.toNat
      · subst c
        rw [mst_same, if_pos (by omega)]
      · rw [mst_ix c]
        have := hb q hq
        by_cases c2 : (q : Int) < i
        · rw [if_pos c2] at this; rw [if_pos (by omega)]; exact this
        · rw [if_neg c2] at this; rw [if_neg (by omega)]; exact this)
    exact ⟨ν', e, r, fun p q h1 => by rw [f p q h1, mst_pl h1]⟩
theorem xremWant_eq {μ : Mem} {a : Nat → Int} {t : Int} (h : SRel a μ 10) (w : Wf a t) (hk : 0 < a 43) : ∃ μ', xs_removeFirstWant μ = some (a 44, μ') ∧ SRel (drw a) μ' 10 ∧ fr μ μ' := by
  have h12 := w.2.2.2.2.2.2.1.2
  have h81 := w.2.1.2
  have h341 := w.2.2.2.2.1.2
  obtain ⟨h1, h2, h3, h4, h5, h6, h7, h8, h9⟩ := h
  have hl := xrw_lp (a := a) (v := a 44) (m := a 43 - 1) (by omega) (a 43 - 1).toNat FU 0 (mst μ 10 8 (a 43 - 1)) (by omega) (by omega) (by have := FU_ge; omega) (mst_same _ _ _ _) (fun q hq => by
    rw [mst_pl (by decide), if_neg (by omega)]; exact h8 q (by omega))
  obtain ⟨μ', e, r, f⟩ := hl
  have o : ∀ j, (j < 43 ∨ 52 ≤ j) → drw a j = a j := fun j hj => drw_o hk h12 hj
  rw [xs_removeFirstWant, bnd_eq, h4, w32_eq (by omega) (by omega), show μ 15 0 = a 44 from h8 0 (by omega), e]
  refine ⟨μ', rfl, ⟨?_, ?_, ?_, ?_, fun q hq => ?_, fun q hq => ?_, fun q hq => ?_, fun q hq => ?_, fun q hq => ?_⟩, fun p q hp => ?_⟩
  · rw [f _ _ (by decide), mst_ix (by decide), o 8 (by omega)]; exact h1
  · rw [f _ _ (by decide), mst_ix (by decide), o 33 (by omega)]; exact h2
  · rw [f _ _ (by decide), mst_ix (by decide), o 34 (by omega)]; exact h3
  · rw [f _ _ (by decide), mst_same, drw_43]
  · rw [o 8 (by omega)] at hq
    rw [f _ _ (by decide), f _ _ (by decide), mst_pl (by decide), mst_pl (by decide), o _ (by omega), o _ (by omega)]; exact h5 q hq
  · rw [o 34 (by omega)] at hq
    rw [f _ _ (by decide), mst_pl (by decide), o _ (by omega)]; exact h6 q hq
  · rw [f _ _ (by decide), mst_pl (by decide), o _ (by omega)]; exact h7 q hq
  · rw [drw_43] at hq
    rw [drw_j hk h12 q hq]; exact r q hq
  · rw [f _ _ (by decide), mst_pl (by decide), o _ (by omega)]; exact h9 q hq
  · rw [f _ _ (by omega), mst_pl (by omega)]
