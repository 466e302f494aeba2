/-! the class's shop holds a row of sixty; its orders -/
def SRel (a : Nat → Int) (μ : Mem) (b : Nat) : Prop := μ b 2 = a 8 ∧ μ b 3 = a 33 ∧ μ b 5 = a 34 ∧ μ b 8 = a 43 ∧ (∀ k : Nat, (k : Int) < a 8 → μ (b + 1) k = a (9 + 2 * k) ∧ μ (b + 2) k = a (10 + 2 * k)) ∧ (∀ k : Nat, (k : Int) < a 34 → μ (b + 3) k = a (35 + k)) ∧ (∀ k : Nat, k < 8 → μ (b + 4) k = a k) ∧ (∀ k : Nat, (k : Int) < a 43 → μ (b + 5) k = a (44 + k)) ∧ (∀ k : Nat, k < 8 → μ (b + 6) k = a (52 + k))
theorem SRel_fr {a : Nat → Int} {μ μ' : Mem} {b : Nat} (h : SRel a μ b) (e : ∀ p q, b ≤ p → p ≤ b + 6 → μ' p q = μ p q) : SRel a μ' b := by
  obtain ⟨h1, h2, h3, h4, h5, h6, h7, h8, h9⟩ := h
  refine ⟨by rw [e _ _ (by omega) (by omega)]; exact h1, by rw [e _ _ (by omega) (by omega)]; exact h2, by rw [e _ _ (by omega) (by omega)]; exact h3, by rw [e _ _ (by omega) (by omega)]; exact h4, fun k hk => ?_, fun k hk => ?_, fun k hk => ?_, fun k hk => ?_, fun k hk => ?_⟩
  · rw [e _ _ (by omega) (by omega), e _ _ (by omega) (by omega)]; exact h5 k hk
  · rw [e _ _ (by omega) (by omega)]; exact h6 k hk
  · rw [e _ _ (by omega) (by omega)]; exact h7 k hk
  · rw [e _ _ (by omega) (by omega)]; exact h8 k hk
  · rw [e _ _ (by omega) (by omega)]; exact h9 k hk
theorem SRel_cong {a a' : Nat → Int} {μ : Mem} {b : Nat} (h : SRel a μ b) (e : ∀ j, j < 60 → a' j = a j) (w : a 8 ≤ 12 ∧ a 34 ≤ 8 ∧ a 43 ≤ 8) : SRel a' μ b := by
  obtain ⟨h1, h2, h3, h4, h5, h6, h7, h8, h9⟩ := h
  have e8 := e 8 (by omega)
  have e34 := e 34 (by omega)
  have e43 := e 43 (by omega)
  refine ⟨by rw [e8]; exact h1, by rw [e 33 (by omega)]; exact h2, by rw [e34]; exact h3, by rw [e43]; exact h4, fun k hk => ?_, fun k hk => ?_, fun k hk => ?_, fun k hk => ?_, fun k hk => ?_⟩
  · rw [e (9 + 2 * k) (by omega), e (10 + 2 * k) (by omega)]; exact h5 k (by omega)
  · rw [e (35 + k) (by omega)]; exact h6 k (by omega)
  · rw [e k (by omega)]; exact h7 k hk
  · rw [e (44 + k) (by omega)]; exact h8 k (by omega)
  · rw [e (52 + k) (by omega)]; exact h9 k hk
section SR
variable {a : Nat → Int} {μ : Mem} {t : Int}
theorem srel_mix (h : SRel a μ 10) (w : a 8 ≤ 12 ∧ a 34 ≤ 8 ∧ a 43 ≤ 8) {k : Nat} (hk : k < 12) (v : Int) : SRel (up a (10 + 2 * k) v) (mst μ 12 k v) 10 := by
  obtain ⟨h1, h2, h3, h4, h5, h6, h7, h8, h9⟩ := h
  have e8 : up a (10 + 2 * k) v 8 = a 8 := up_ne (by omega)
  have e34 : up a (10 + 2 * k) v 34 = a 34 := up_ne (by omega)
  have e43 : up a (10 + 2 * k) v 43 = a 43 := up_ne (by omega)
  refine ⟨by rw [mst_pl (by decide), e8]; exact h1, by rw [mst_pl (by decide), up_ne (by omega)]; exact h2, by rw [mst_pl (by decide), e34]; exact h3, by rw [mst_pl (by decide), e43]; exact h4, fun q hq => ?_, fun q hq => ?_, fun q hq => ?_, fun q hq => ?_, fun q hq => ?_⟩
  · rw [e8] at hq
    rw [mst_pl (by decide), up_ne (by omega)]
    refine ⟨(h5 q hq).1, ?_⟩
    by_cases c : q = k
    · subst c; rw [mst_same, up_same]
    · rw [mst_ix c, up_ne (by omega)]; exact (h5 q hq).2
  · rw [e34] at hq; rw [mst_pl (by decide), up_ne (by omega)]; exact h6 q hq
  · rw [mst_pl (by decide), up_ne (by omega)]; exact h7 q hq
  · rw [e43] at hq; rw [mst_pl (by decide), up_ne (by omega)]; exact h8 q hq
  · rw [mst_pl (by decide), up_ne (by omega)]; exact h9 q hq
theorem srel_num (h : SRel a μ 10) (w : a 8 ≤ 12 ∧ a 34 ≤ 8 ∧ a 43 ≤ 8) {k : Nat} (hk : k < 12) (v : Int) : SRel (up a (9 + 2 * k) v) (mst μ 11 k v) 10 := by
  obtain ⟨h1, h2, h3, h4, h5, h6, h7, h8, h9⟩ := h
  have e8 : up a (9 + 2 * k) v 8 = a 8 := up_ne (by omega)
  have e34 : up a (9 + 2 * k) v 34 = a 34 := up_ne (by omega)
  have e43 : up a (9 + 2 * k) v 43 = a 43 := up_ne (by omega)
  refine ⟨by rw [mst_pl (by decide), e8]; exact h1, by rw [mst_pl (by decide), up_ne (by omega)]; exact h2, by rw [mst_pl (by decide), e34]; exact h3, by rw [mst_pl (by decide), e43]; exact h4, fun q hq => ?_, fun q hq => ?_, fun q hq => ?_, fun q hq => ?_, fun q hq => ?_⟩
  · rw [e8] at hq
    refine ⟨?_, by rw [mst_pl (by decide), up_ne (by omega)]; exact (h5 q hq).2⟩
    by_cases c : q = k
    · subst c; rw [mst_same, up_same]
    · rw [mst_ix c, up_ne (by omega)]; exact (h5 q hq).1
  · rw [e34] at hq; rw [mst_pl (by decide), up_ne (by omega)]; exact h6 q hq
  · rw [mst_pl (by decide), up_ne (by omega)]; exact h7 q hq
  · rw [e43] at hq; rw [mst_pl (by decide), up_ne (by omega)]; exact h8 q hq
  · rw [mst_pl (by decide), up_ne (by omega)]; exact h9 q hq
theorem srel_acc (h : SRel a μ 10) (w : a 8 ≤ 12 ∧ a 34 ≤ 8 ∧ a 43 ≤ 8) {k : Nat} (hk : k < 8) (v : Int) : SRel (up a (52 + k) v) (mst μ 16 k v) 10 := by
  obtain ⟨h1, h2, h3, h4, h5, h6, h7, h8, h9⟩ := h
  have e8 : up a (52 + k) v 8 = a 8 := up_ne (by omega)
  have e34 : up a (52 + k) v 34 = a 34 := up_ne (by omega)
  have e43 : up a (52 + k) v 43 = a 43 := up_ne (by omega)
  refine ⟨by rw [mst_pl (by decide), e8]; exact h1, by rw [mst_pl (by decide), up_ne (by omega)]; exact h2, by rw [mst_pl (by decide), e34]; exact h3, by rw [mst_pl (by decide), e43]; exact h4, fun q hq => ?_, fun q hq => ?_, fun q hq => ?_, fun q hq => ?_, fun q hq => ?_⟩
  · rw [e8] at hq
    rw [mst_pl (by decide), mst_pl (by decide), up_ne (by omega), up_ne (by omega)]; exact h5 q hq
  · rw [e34] at hq; rw [mst_pl (by decide), up_ne (by omega)]; exact h6 q hq
  · rw [mst_pl (by decide), up_ne (by omega)]; exact h7 q hq
  · rw [e43] at hq; rw [mst_pl (by decide), up_ne (by omega)]; exact h8 q hq
  · by_cases c : q = k
    · subst c; rw [mst_same, up_same]
    · rw [mst_ix c, up_ne (by omega)]; exact h9 q hq
theorem srel_price (h : SRel a μ 10) (w : a 8 ≤ 12 ∧ a 34 ≤ 8 ∧ a 43 ≤ 8) {k : Nat} (hk : k < 8) (v : Int) : SRel (up a k v) (mst μ 14 k v) 10 := by
  obtain ⟨h1, h2, h3, h4, h5, h6, h7, h8, h9⟩ := h
  have e8 : up a k v 8 = a 8 := up_ne (by omega)
  have e34 : up a k v 34 = a 34 := up_ne (by omega)
  have e43 : up a k v 43 = a 43 := up_ne (by omega)
  refine ⟨by rw [mst_pl (by decide), e8]; exact h1, by rw [mst_pl (by decide), up_ne (by omega)]; exact h2, by rw [mst_pl (by decide), e34]; exact h3, by rw [mst_pl (by decide), e43]; exact h4, fun q hq => ?_, fun q hq => ?_, fun q hq => ?_, fun q hq => ?_, fun q hq => ?_⟩
  · rw [e8] at hq
    rw [mst_pl (by decide), mst_pl (by decide), up_ne (by omega), up_ne (by omega)]; exact h5 q hq
  · rw [e34] at hq; rw [mst_pl (by decide), up_ne (by omega)]; exact h6 q hq
  · by_cases c : q = k
    · subst c; rw [mst_same, up_same]
    · rw [mst_ix c, up_ne (by omega)]; exact h7 q hq
  · rw [e43] at hq; rw [mst_pl (by decide), up_ne (by omega)]; exact h8 q hq
  · rw [mst_pl (by decide), up_ne (by omega)]; exact h9 q hq
theorem srel_rul (h : SRel a μ 10) (w : a 8 ≤ 12 ∧ a 34 ≤ 8 ∧ a 43 ≤ 8) {k : Nat} (hk : k < 8) (v : Int) : SRel (up a (35 + k) v) (mst μ 13 k v) 10 := by
  obtain ⟨h1, h2, h3, h4, h5, h6, h7, h8, h9⟩ := h
  have e8 : up a (35 + k) v 8 = a 8 := up_ne (by omega)
  have e34 : up a (35 + k) v 34 = a 34 := up_ne (by omega)
  have e43 : up a (35 + k) v 43 = a 43 := up_ne (by omega)
  refine ⟨by rw [mst_pl (by decide), e8]; exact h1, by rw [mst_pl (by decide), up_ne (by omega)]; exact h2, by rw [mst_pl (by decide), e34]; exact h3, by rw [mst_pl (by decide), e43]; exact h4, fun q hq => ?_, fun q hq => ?_, fun q hq => ?_, fun q hq => ?_, fun q hq => ?_⟩
  · rw [e8] at hq
    rw [mst_pl (by decide), mst_pl (by decide), up_ne (by omega), up_ne (by omega)]; exact h5 q hq
  · rw [e34] at hq
    by_cases c : q = k
    · subst c; rw [mst_same, up_same]
    · rw [mst_ix c, up_ne (by omega)]; exact h6 q hq
  · rw [mst_pl (by decide), up_ne (by omega)]; exact h7 q hq
  · rw [e43] at hq; rw [mst_pl (by decide), up_ne (by omega)]; exact h8 q hq
  · rw [mst_pl (by decide), up_ne (by omega)]; exact h9 q hq
theorem srel_wan (h : SRel a μ 10) (w : a 8 ≤ 12 ∧ a 34 ≤ 8 ∧ a 43 ≤ 8) {k : Nat} (hk : k < 8) (v : Int) : SRel (up a (44 + k) v) (mst μ 15 k v) 10 := by
  obtain ⟨h1, h2, h3, h4, h5, h6, h7, h8, h9⟩ := h
  have e8 : up a (44 + k) v 8 = a 8 := up_ne (by omega)
  have e34 : up a (44 + k) v 34 = a 34 := up_ne (by omega)
  have e43 : up a (44 + k) v 43 = a 43 := up_ne (by omega)
  refine ⟨by rw [mst_pl (by decide), e8]; exact h1, by rw [mst_pl (by decide), up_ne (by omega)]; exact h2, by rw [mst_pl (by decide), e34]; exact h3, by rw [mst_pl (by decide), e43]; exact h4, fun q hq => ?_, fun q hq => ?_, fun q hq => ?_, fun q hq => ?_, fun q hq => ?_⟩
  · rw [e8] at hq
    rw [mst_pl (by decide), mst_pl (by decide), up_ne (by omega), up_ne (by omega)]; exact h5 q hq
  · rw [e34] at hq; rw [mst_pl (by decide), up_ne (by omega)]; exact h6 q hq
  · rw [mst_pl (by decide), up_ne (by omega)]; exact h7 q hq
  · rw [e43] at hq
    by_cases c : q = k
    · subst c; rw [mst_same, up_same]
    · rw [mst_ix c, up_ne (by omega)]; exact h8 q hq
  · rw [mst_pl (by decide), up_ne (by omega)]; exact h9 q hq
theorem srel_came (h : SRel a μ 10) (w : a 8 ≤ 12 ∧ a 34 ≤ 8 ∧ a 43 ≤ 8) (v : Int) : SRel (up a 33 v) (mst μ 10 3 v) 10 := by
  obtain ⟨h1, h2, h3, h4, h5, h6, h7, h8, h9⟩ := h
  have e8 : up a 33 v 8 = a 8 := up_ne (by omega)
  have e34 : up a 33 v 34 = a 34 := up_ne (by omega)
  have e43 : up a 33 v 43 = a 43 := up_ne (by omega)
  refine ⟨by rw [mst_ix (by decide), e8]; exact h1, by rw [mst_same, up_same], by rw [mst_ix (by decide), e34]; exact h3, by rw [mst_ix (by decide), e43]; exact h4, fun q hq => ?_, fun q hq => ?_, fun q hq => ?_, fun q hq => ?_, fun q hq => ?_⟩
  · rw [e8] at hq
    rw [mst_pl (by decide), mst_pl (by decide), up_ne (by omega), up_ne (by omega)]; exact h5 q hq
  · rw [e34] at hq; rw [mst_pl (by decide), up_ne (by omega)]; exact h6 q hq
  · rw [mst_pl (by decide), up_ne (by omega)]; exact h7 q hq
  · rw [e43] at hq; rw [mst_pl (by decide), up_ne (by omega)]; exact h8 q hq
  · rw [mst_pl (by decide), up_ne (by omega)]; exact h9 q hq
theorem srel_jars (h : SRel a μ 10) (w : a 8 ≤ 12 ∧ a 34 ≤ 8 ∧ a 43 ≤ 8) {v : Int} (hv : ∀ k : Nat, a 8 ≤ (k : Int) → (k : Int) < v → μ 11 k = a (9 + 2 * k) ∧ μ 12 k = a (10 + 2 * k)) (hv2 : v ≤ 12) : SRel (up a 8 v) (mst μ 10 2 v) 10 := by
  obtain ⟨h1, h2, h3, h4, h5, h6, h7, h8, h9⟩ := h
  have e34 : up a 8 v 34 = a 34 := up_ne (by omega)
  have e43 : up a 8 v 43 = a 43 := up_ne (by omega)
  refine ⟨by rw [mst_same, up_same], by rw [mst_ix (by decide), up_ne (by omega)]; exact h2, by rw [mst_ix (by decide), e34]; exact h3, by rw [mst_ix (by decide), e43]; exact h4, fun q hq => ?_, fun q hq => ?_, fun q hq => ?_, fun q hq => ?_, fun q hq => ?_⟩
  · rw [up_same] at hq
    rw [mst_pl (by decide), mst_pl (by decide), up_ne (by omega), up_ne (by omega)]
    by_cases c : (q : Int) < a 8
    · exact h5 q c
    · exact hv q (by omega) hq
  · rw [e34] at hq; rw [mst_pl (by decide), up_ne (by omega)]; exact h6 q hq
  · rw [mst_pl (by decide), up_ne (by omega)]; exact h7 q hq
  · rw [e43] at hq; rw [mst_pl (by decide), up_ne (by omega)]; exact h8 q hq
  · rw [mst_pl (by decide), up_ne (by omega)]; exact h9 q hq
theorem srel_ruled (h : SRel a μ 10) (w : a 8 ≤ 12 ∧ a 34 ≤ 8 ∧ a 43 ≤ 8) {v : Int} (hv : ∀ k : Nat, a 34 ≤ (k : Int) → (k : Int) < v → μ 13 k = a (35 + k)) (hv2 : v ≤ 8) : SRel (up a 34 v) (mst μ 10 5 v) 10 := by
  obtain ⟨h1, h2, h3, h4, h5, h6, h7, h8, h9⟩ := h
  have e8 : up a 34 v 8 = a 8 := up_ne (by omega)
  have e43 : up a 34 v 43 = a 43 := up_ne (by omega)
  refine ⟨by rw [mst_ix (by decide), e8]; exact h1, by rw [mst_ix (by decide), up_ne (by omega)]; exact h2, by rw [mst_same, up_same], by rw [mst_ix (by decide), e43]; exact h4, fun q hq => ?_, fun q hq => ?_, fun q hq => ?_, fun q hq => ?_, fun q hq => ?_⟩
  · rw [e8] at hq
    rw [mst_pl (by decide), mst_pl (by decide), up_ne (by omega), up_ne (by omega)]; exact h5 q hq
  · rw [up_same] at hq
    rw [mst_pl (by decide), up_ne (by omega)]
    by_cases c : (q : Int) < a 34
    · exact h6 q c
    · exact hv q (by omega) hq
  · rw [mst_pl (by decide), up_ne (by omega)]; exact h7 q hq
  · rw [e43] at hq; rw [mst_pl (by decide), up_ne (by omega)]; exact h8 q hq
  · rw [mst_pl (by decide), up_ne (by omega)]; exact h9 q hq
theorem srel_waits (h : SRel a μ 10) (w : a 8 ≤ 12 ∧ a 34 ≤ 8 ∧ a 43 ≤ 8) {v : Int} (hv : ∀ k : Nat, a 43 ≤ (k : Int) → (k : Int) < v → μ 15 k = a (44 + k)) (hv2 : v ≤ 8) : SRel (up a 43 v) (mst μ 10 8 v) 10 := by
  obtain ⟨h1, h2, h3, h4, h5, h6, h7, h8, h9⟩ := h
  have e8 : up a 43 v 8 = a 8 := up_ne (by omega)
  have e34 : up a 43 v 34 = a 34 := up_ne (by omega)
  refine ⟨by rw [mst_ix (by decide), e8]; exact h1, by rw [mst_ix (by decide), up_ne (by omega)]; exact h2, by rw [mst_ix (by decide), e34]; exact h3, by rw [mst_same, up_same], fun q hq => ?_, fun q hq => ?_, fun q hq => ?_, fun q hq => ?_, fun q hq => ?_⟩
  · rw [e8] at hq
    rw [mst_pl (by decide), mst_pl (by decide), up_ne (by omega), up_ne (by omega)]; exact h5 q hq
  · rw [e34] at hq; rw [mst_pl (by decide), up_ne (by omega)]; exact h6 q hq
  · rw [mst_pl (by decide), up_ne (by omega)]; exact h7 q hq
  · rw [up_same] at hq
    rw [mst_pl (by decide), up_ne (by omega)]
    by_cases c : (q : Int) < a 43
    · exact h8 q c
    · exact hv q (by omega) hq
  · rw [mst_pl (by decide), up_ne (by omega)]; exact h9 q hq
end SR
def fr (μ μ' : Mem) : Prop := ∀ p q, (p < 10 ∨ 16 < p) → μ' p q = μ p q
theorem fr_rf (μ : Mem) : fr μ μ := fun _ _ _ => rfl
theorem fr_mst {μ μ' : Mem} (h : fr μ μ') {k i : Nat} {v : Int} (hk : 10 ≤ k ∧ k ≤ 16) : fr μ (mst μ' k i v) := fun p q hp => by rw [mst_pl (by omega)]; exact h p q hp
theorem JT_fr' {μ μ' : Mem} (h : JT μ) (f : fr μ μ') : JT μ' := JT_fr h (fun q => f 2 q (by omega))
theorem xplace_lp {μ : Mem} {a : Nat → Int} {v : Int} (h : SRel a μ 10) (h8 : 0 ≤ a 8 ∧ a 8 ≤ 12) (j : Nat) : ∀ (k n : Nat), (k : Int) + j = a 8 → j < n → xs_placeOf_2 n v k μ = some (if fndF a v j k = -5 then -1 else fndF a v j k) := by
  induction j with
  | zero =>
    intro k n hk hn
    obtain ⟨n, rfl⟩ : ∃ m, n = m + 1 := ⟨n - 1, by omega⟩
    rw [xs_placeOf_2, h.1, if_pos (by omega), xs_placeOf_28]
    rfl
  | succ j ih =>
    intro k n hk hn
    obtain ⟨n, rfl⟩ : ∃ m, n = m + 1 := ⟨n - 1, by omega⟩
    have e1 : w32 ((k : Int) + 1) = ((k + 1 : Nat) : Int) := by rw [w32_eq (by omega) (by omega)]; omega
    rw [xs_placeOf_2, h.1, if_neg (by omega), aget_eq (by omega) (by omega), sb, Int.toNat_natCast, (h.2.2.2.2.1 k (by omega)).1, fndF]
    by_cases c : a (9 + 2 * k) = v
    · rw [if_pos c, if_pos c, xs_placeOf_20, if_neg (by omega)]
    · rw [if_neg c, if_neg c, bnd_eq, e1]
      exact ih (k + 1) n (by omega) (by omega)
theorem xplace_eq {μ : Mem} {a : Nat → Int} {t : Int} (v : Int) (h : SRel a μ 10) (w : Wf a t) : xs_placeOf v μ = some (if fnd a v = -5 then -1 else fnd a v) := xplace_lp h w.2.1 (a 8).toNat 0 FU (by have := w.2.1; omega) (by have := FU_ge; have := w.2.1; omega)
theorem wf3 {a : Nat → Int} {t : Int} (w : Wf a t) : a 8 ≤ 12 ∧ a 34 ≤ 8 ∧ a 43 ≤ 8 := ⟨w.2.1.2, w.2.2.2.2.1.2, w.2.2.2.2.2.2.1.2⟩
theorem smix {μ : Mem} {a : Nat → Int} {t : Int} (h : SRel a μ 10) (w : Wf a t) {k : Int} (h0 : 0 ≤ k) (h1 : k < a 8) : μ 12 k.toNat = mixA a k := (h.2.2.2.2.1 k.toNat (by omega)).2
theorem sacc {μ : Mem} {a : Nat → Int} (h : SRel a μ 10) {k : Nat} (hk : k < 8) : μ 16 k = a (52 + k) := h.2.2.2.2.2.2.2.2 k hk
theorem sprc {μ : Mem} {a : Nat → Int} (h : SRel a μ 10) (m : Int) : prc (μ 14) m = prc a m := prc_cong (fun j hj => h.2.2.2.2.2.2.1 j hj) m
theorem sokP {μ : Mem} {a : Nat → Int} {t : Int} (h : SRel a μ 10) (w : Wf a t) : okP (μ 14) := fun j hj => by rw [h.2.2.2.2.2.2.1 j hj]; exact w.1 j hj
/-- both mixes in one jar; a' is the row with the poured jar emptied, or the same row -/
theorem xmixInto_eq {μ : Mem} {a : Nat → Int} {t k m : Int} (hJ : JT μ) (h : SRel a μ 10) (w : Wf a t) (ht : t ≤ 2000000000) (h0 : 0 ≤ k) (h1 : k < a 8) (hm : isM m) : ∃ μ', xa_mixInto k m μ = some (un (mixA a k) + un m - un (mx (mixA a k) m), μ') ∧ SRel (up (up a (10 + 2 * k.toNat) (mx (mixA a k) m)) 53 (a 53 + (un (mixA a k) + un m - un (mx (mixA a k) m)))) μ' 10 ∧ fr μ μ' ∧ μ' 12 k.toNat = mx (mixA a k) m := by
  have w3 := wf3 w
  have a53 := Wf_acc w ht 53 (by omega) (by omega)
  have m1 := mixA_M w h0 h1
  have u1 := un_b (mixA a k)
  have u2 := un_b m
  have u3 := un_b (mx (mixA a k) m)
  have r1 := srel_mix h w3 (k := k.toNat) (by omega) (mx (mixA a k) m)
  refine ⟨mst (mst μ 12 k.toNat (mx (mixA a k) m)) 16 1 (a 53 + (un (mixA a k) + un m - un (mx (mixA a k) m))), ?_, srel_acc r1 (by rw [up_ne (by omega), up_ne (by omega), up_ne (by omega)]; exact w3) (k := 1) (by omega) _, fr_mst (fr_mst (fr_rf μ) (by omega)) (by omega), by rw [mst_pl (by decide), mst_same]⟩
  rw [xa_mixInto, aget_eq h0 (by omega), sb, smix h w h0 h1, join_eq hJ m1 hm, sb, xunits_eq m1, sb, xunits_eq hm, sb, xunits_eq (mx_isM _ _), sb, bnd_eq, w32_eq (x := un (mixA a k) + un m) (by omega) (by omega), w32_eq (x := un (mixA a k) + un m - un (mx (mixA a k) m)) (by omega) (by omega), aput_eq h0 (by omega), sb, bnd_eq, mst_pl (by decide), show μ 16 1 = a 53 from sacc h (by omega), w32_eq (by omega) (by omega)]
