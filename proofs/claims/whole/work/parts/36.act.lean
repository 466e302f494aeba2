/-! copies of rows, in the reference; what an act leaves -/
def hr (μ : Mem) (i : Nat) : Nat → Int := fun j => μ 3 (60 * i + j)
theorem Wf_cong {a b : Nat → Int} {t : Int} (w : Wf a t) (e : ∀ j, j < 60 → b j = a j) : Wf b t := by
  have w3 := wf3 w
  obtain ⟨h1, h2, h3, h4, h5, h6, h7, h8, h9⟩ := w
  unfold Wf
  rw [e 8 (by omega), e 33 (by omega), e 34 (by omega), e 43 (by omega)]
  refine ⟨fun j hj => ?_, h2, fun q hq => ?_, h4, h5, fun q hq => ?_, h7, fun q hq => ?_, fun q hq => ?_⟩
  · rw [e j (by omega)]; exact h1 j hj
  · rw [e _ (by omega), e _ (by omega)]; exact h3 q hq
  · rw [e _ (by omega)]; exact h6 q hq
  · rw [e _ (by omega)]; exact h8 q hq
  · rw [e _ (by omega)]; exact h9 q hq
theorem aside_lp (j : Nat) : ∀ (k n : Nat) (μ : Mem), k + j = 60 → j < n → (∀ q, q < k → μ 2 q = μ 1 q) → ∃ μ', mm_putAside_2 n k μ = mm_putAside_26 μ' ∧ (∀ q, q < 60 → μ' 2 q = μ 1 q) ∧ ∀ p q, p ≠ 2 → μ' p q = μ p q := by
  induction j with
  | zero =>
    intro k n μ hk hn h
    obtain ⟨n, rfl⟩ : ∃ m, n = m + 1 := ⟨n - 1, by omega⟩
    rw [mm_putAside_2, if_pos (by omega)]
    exact ⟨μ, rfl, fun q hq => h q (by omega), fun _ _ _ => rfl⟩
  | succ j ih =>
    intro k n μ hk hn h
    obtain ⟨n, rfl⟩ : ∃ m, n = m + 1 := ⟨n - 1, by omega⟩
    have e3 : w32 ((k : Int) + 1) = ((k + 1 : Nat) : Int) := by rw [w32_eq (by omega) (by omega)]; omega
    rw [mm_putAside_2, if_neg (by omega), aget_eq (by omega) (by omega), sb, aput_eq (by omega) (by omega), sb, bnd_eq, e3, Int.toNat_natCast]
    obtain ⟨μ', e, r, f⟩ := ih (k + 1) n (mst μ 2 k (μ 1 k)) (by omega) (by omega) (fun q hq => by
      rw [mst_pl (k := 2) (a := 1) (by decide)]
      by_cases c : q = k
      · subst c; rw [mst_same]
      · rw [mst_ix c]; exact h q (by omega))
    exact ⟨μ', e, fun q hq => by rw [r q hq, mst_pl (by decide)], fun p q hp => by rw [f p q hp, mst_pl hp]⟩
theorem act11_lp {x : Int} (j : Nat) : ∀ (k n : Nat) (μ : Mem), k + j = 60 → j < n → (∀ q, q < k → μ 1 q = μ 2 q) → ∃ μ', mm_act_11 n x k μ = mm_act_35 x μ' ∧ (∀ q, q < 60 → μ' 1 q = μ 2 q) ∧ ∀ p q, p ≠ 1 → μ' p q = μ p q := by
  induction j with
  | zero =>
    intro k n μ hk hn h
    obtain ⟨n, rfl⟩ : ∃ m, n = m + 1 := ⟨n - 1, by omega⟩
    rw [mm_act_11, if_pos (by omega)]
    exact ⟨μ, rfl, fun q hq => h q (by omega), fun _ _ _ => rfl⟩
  | succ j ih =>
    intro k n μ hk hn h
    obtain ⟨n, rfl⟩ : ∃ m, n = m + 1 := ⟨n - 1, by omega⟩
    have e3 : w32 ((k : Int) + 1) = ((k + 1 : Nat) : Int) := by rw [w32_eq (by omega) (by omega)]; omega
    rw [mm_act_11, if_neg (by omega), aget_eq (by omega) (by omega), sb, aput_eq (by omega) (by omega), sb, bnd_eq, e3, Int.toNat_natCast]
    obtain ⟨μ', e, r, f⟩ := ih (k + 1) n (mst μ 1 k (μ 2 k)) (by omega) (by omega) (fun q hq => by
      rw [mst_pl (k := 1) (a := 2) (by decide)]
      by_cases c : q = k
      · subst c; rw [mst_same]
      · rw [mst_ix c]; exact h q (by omega))
    exact ⟨μ', e, fun q hq => by rw [r q hq, mst_pl (by decide)], fun p q hp => by rw [f p q hp, mst_pl hp]⟩
theorem keep_lp (j : Nat) : ∀ (k n : Nat) (μ : Mem), k + j = 60 → j < n → (∀ q, q < k → μ 4 q = μ 1 q) → ∃ μ', mm_keep_2 n k μ = mm_keep_26 μ' ∧ (∀ q, q < 60 → μ' 4 q = μ 1 q) ∧ ∀ p q, p ≠ 4 → μ' p q = μ p q := by
  induction j with
  | zero =>
    intro k n μ hk hn h
    obtain ⟨n, rfl⟩ : ∃ m, n = m + 1 := ⟨n - 1, by omega⟩
    rw [mm_keep_2, if_pos (by omega)]
    exact ⟨μ, rfl, fun q hq => h q (by omega), fun _ _ _ => rfl⟩
  | succ j ih =>
    intro k n μ hk hn h
    obtain ⟨n, rfl⟩ : ∃ m, n = m + 1 := ⟨n - 1, by omega⟩
    have e3 : w32 ((k : Int) + 1) = ((k + 1 : Nat) : Int) := by rw [w32_eq (by omega) (by omega)]; omega
    rw [mm_keep_2, if_neg (by omega), aget_eq (by omega) (by omega), sb, aput_eq (by omega) (by omega), sb, bnd_eq, e3, Int.toNat_natCast]
    obtain ⟨μ', e, r, f⟩ := ih (k + 1) n (mst μ 4 k (μ 1 k)) (by omega) (by omega) (fun q hq => by
      rw [mst_pl (k := 4) (a := 1) (by decide)]
      by_cases c : q = k
      · subst c; rw [mst_same]
      · rw [mst_ix c]; exact h q (by omega))
    exact ⟨μ', e, fun q hq => by rw [r q hq, mst_pl (by decide)], fun p q hp => by rw [f p q hp, mst_pl hp]⟩
theorem rest_lp (j : Nat) : ∀ (k n : Nat) (μ : Mem), k + j = 60 → j < n → (∀ q, q < k → μ 1 q = μ 4 q) → ∃ μ', mm_restore_16 n k μ = mm_restore_40 μ' ∧ (∀ q, q < 60 → μ' 1 q = μ 4 q) ∧ ∀ p q, p ≠ 1 → μ' p q = μ p q := by
  induction j with
  | zero =>
    intro k n μ hk hn h
    obtain ⟨n, rfl⟩ : ∃ m, n = m + 1 := ⟨n - 1, by omega⟩
    rw [mm_restore_16, if_pos (by omega)]
    exact ⟨μ, rfl, fun q hq => h q (by omega), fun _ _ _ => rfl⟩
  | succ j ih =>
    intro k n μ hk hn h
    obtain ⟨n, rfl⟩ : ∃ m, n = m + 1 := ⟨n - 1, by omega⟩
    have e3 : w32 ((k : Int) + 1) = ((k + 1 : Nat) : Int) := by rw [w32_eq (by omega) (by omega)]; omega
    rw [mm_restore_16, if_neg (by omega), aget_eq (by omega) (by omega), sb, aput_eq (by omega) (by omega), sb, bnd_eq, e3, Int.toNat_natCast]
    obtain ⟨μ', e, r, f⟩ := ih (k + 1) n (mst μ 1 k (μ 4 k)) (by omega) (by omega) (fun q hq => by
      rw [mst_pl (k := 1) (a := 4) (by decide)]
      by_cases c : q = k
      · subst c; rw [mst_same]
      · rw [mst_ix c]; exact h q (by omega))
    exact ⟨μ', e, fun q hq => by rw [r q hq, mst_pl (by decide)], fun p q hp => by rw [f p q hp, mst_pl hp]⟩
theorem aside_eq (μ : Mem) : ∃ μ', mm_putAside μ = some μ' ∧ (∀ q, q < 60 → μ' 2 q = μ 1 q) ∧ ∀ p q, p ≠ 2 → μ' p q = μ p q := by
  obtain ⟨μ', e, r, f⟩ := aside_lp 60 0 FU μ (by omega) (by have := FU_ge; omega) (fun q hq => by omega)
  exact ⟨μ', by rw [mm_putAside]; exact e, r, f⟩
theorem act87_lp {x : Int} {N : Nat} (hN : N ≤ 3) (j : Nat) : ∀ (k n : Nat) (μ : Mem), k + j = 60 → j < n → μ 0 3 = (N : Int) → (∀ q, q < k → μ 3 (60 * N + q) = μ 2 q) → ∃ μ', mm_act_87 n x k μ = mm_act_119 x μ' ∧ (∀ q, q < 60 → μ' 3 (60 * N + q) = μ 2 q) ∧ (∀ q, (q < 60 * N ∨ 60 * N + 60 ≤ q) → μ' 3 q = μ 3 q) ∧ ∀ p q, p ≠ 3 → μ' p q = μ p q := by
  induction j with
  | zero =>
    intro k n μ hk hn h0 h
    obtain ⟨n, rfl⟩ : ∃ m, n = m + 1 := ⟨n - 1, by omega⟩
    rw [mm_act_87, if_pos (by omega)]
    exact ⟨μ, rfl, fun q hq => h q (by omega), fun _ _ => rfl, fun _ _ _ => rfl⟩
  | succ j ih =>
    intro k n μ hk hn h0 h
    obtain ⟨n, rfl⟩ : ∃ m, n = m + 1 := ⟨n - 1, by omega⟩
    have e3 : w32 ((k : Int) + 1) = ((k + 1 : Nat) : Int) := by rw [w32_eq (by omega) (by omega)]; omega
    have e4 : w32 (w32 (60 * (N : Int)) + (k : Int)) = ((60 * N + k : Nat) : Int) := by rw [w32_eq (x := 60 * (N : Int)) (by omega) (by omega), w32_eq (by omega) (by omega)]; omega
    rw [mm_act_87, if_neg (by omega), aget_eq (by omega) (by omega), sb, h0, e4, aput_eq (by omega) (by omega), sb, bnd_eq, e3, Int.toNat_natCast, Int.toNat_natCast]
    obtain ⟨μ', e, r, g, f⟩ := ih (k + 1) n (mst μ 3 (60 * N + k) (μ 2 k)) (by omega) (by omega) (by rw [mst_pl (by decide)]; exact h0) (fun q hq => by
      rw [mst_pl (k := 3) (a := 2) (by decide)]
      by_cases c : q = k
      · subst c; rw [mst_same]
      · rw [mst_ix (by omega)]; exact h q (by omega))
    exact ⟨μ', e, fun q hq => by rw [r q hq, mst_pl (by decide)], fun q hq => by rw [g q hq, mst_ix (by omega)], fun p q hp => by rw [f p q hp, mst_pl hp]⟩
theorem act47_lp {x : Int} (S : Nat → Int) (j : Nat) : ∀ (k n : Nat) (μ : Mem), k + j = 180 → j < n → (∀ q, q < 240 → μ 3 q = if q < k then S (60 + q) else S q) → ∃ μ', mm_act_47 n x k μ = mm_act_75 x μ' ∧ (∀ q, q < 180 → μ' 3 q = S (60 + q)) ∧ ∀ p q, p ≠ 3 → μ' p q = μ p q := by
  induction j with
  | zero =>
    intro k n μ hk hn h
    obtain ⟨n, rfl⟩ : ∃ m, n = m + 1 := ⟨n - 1, by omega⟩
    rw [mm_act_47, if_pos (by omega)]
    exact ⟨μ, rfl, fun q hq => by rw [h q (by omega), if_pos (by omega)], fun _ _ _ => rfl⟩
  | succ j ih =>
    intro k n μ hk hn h
    obtain ⟨n, rfl⟩ : ∃ m, n = m + 1 := ⟨n - 1, by omega⟩
    have e3 : w32 ((k : Int) + 1) = ((k + 1 : Nat) : Int) := by rw [w32_eq (by omega) (by omega)]; omega
    have e4 : w32 (60 + (k : Int)) = ((60 + k : Nat) : Int) := by rw [w32_eq (by omega) (by omega)]; omega
    rw [mm_act_47, if_neg (by omega), e4, aget_eq (by omega) (by omega), sb, aput_eq (by omega) (by omega), sb, bnd_eq, e3, Int.toNat_natCast, Int.toNat_natCast, h (60 + k) (by omega), if_neg (by omega)]
    obtain ⟨μ', e, r, f⟩ := ih (k + 1) n (mst μ 3 k (S (60 + k))) (by omega) (by omega) (fun q hq => by
      by_cases c : q = k
      · subst c; rw [mst_same, if_pos (by omega)]
      · rw [mst_ix c, h q hq]
        by_cases c2 : q < k
        · rw [if_pos c2, if_pos (by omega)]
        · rw [if_neg c2, if_neg (by omega)])
    exact ⟨μ', e, r, fun p q hp => by rw [f p q hp, mst_pl hp]⟩
/-- what an act that stands leaves: the row a', the old row b behind it -/
def PU (μ μ' : Mem) (b a' : Nat → Int) : Prop := μ' 1 = a' ∧ μ' 0 8 = 0 ∧ (∃ N M : Nat, M ≤ 3 ∧ ((N = 4 ∧ M = 3) ∨ (N ≤ 3 ∧ M = N)) ∧ μ 0 3 = (N : Int) ∧ μ' 0 3 = ((M + 1 : Nat) : Int) ∧ (∀ j, j < 60 → hr μ' M j = b j) ∧ ∀ i, i < M → ∀ j, j < 60 → hr μ' i j = hr μ (i + (N - M)) j) ∧ (∀ p q, p ≠ 0 → p ≠ 1 → p ≠ 2 → p ≠ 3 → μ' p q = μ p q) ∧ ∀ q, q ≠ 3 → q ≠ 8 → μ' 0 q = μ 0 q
theorem act_pos {μ : Mem} {x : Int} {N : Nat} (hx : 0 ≤ x) (hN : N ≤ 4) (h0 : μ 0 3 = (N : Int)) : ∃ μ', mm_act x μ = some (x, μ') ∧ PU μ μ' (μ 2) (μ 1) := by
  rw [mm_act, bnd_eq, if_pos hx, mst_ix (by decide), h0]
  by_cases c : N = 4
  · subst c
    rw [if_pos (by decide)]
    obtain ⟨μ1, e1, r1, f1⟩ := act47_lp (x := x) (fun q => μ 3 q) 180 0 FU (mst μ 0 8 0) (by omega) (by have := FU_ge; omega) (fun q hq => by rw [mst_pl (by decide), if_neg (by omega)])
    rw [show ((0 : Nat) : Int) = 0 from rfl] at e1
    rw [e1, mm_act_75, bnd_eq, f1 0 3 (by decide), mst_ix (by decide), h0, w32_eq (by omega) (by omega), mm_act_85]
    obtain ⟨μ2, e2, r2, g2, f2⟩ := act87_lp (x := x) (N := 3) (by omega) 60 0 FU (mst μ1 0 3 ((4 : Nat) - 1 : Int)) (by omega) (by have := FU_ge; omega) (by rw [mst_same]; rfl) (fun q hq => by omega)
    rw [show ((0 : Nat) : Int) = 0 from rfl] at e2
    rw [e2, mm_act_119, bnd_eq, f2 0 3 (by decide), mst_same, w32_eq (by omega) (by omega)]
    refine ⟨_, rfl, ?_, ?_, ⟨4, 3, by omega, by omega, h0, ?_, fun j hj => ?_, fun i hi j hj => ?_⟩, fun p q p0 p1 p2 p3 => ?_, fun q q3 q8 => ?_⟩
    · funext q
      rw [mst_pl (by decide), f2 _ _ (by decide), mst_pl (by decide), f1 _ _ (by decide), mst_pl (by decide)]
    · rw [mst_ix (by decide), f2 _ _ (by decide), mst_ix (by decide), f1 _ _ (by decide), mst_same]
    · rw [mst_same]; rfl
    · rw [hr, mst_pl (by decide), r2 j hj, mst_pl (by decide), f1 _ _ (by decide), mst_pl (by decide)]
    · rw [hr, mst_pl (by decide), g2 _ (by omega), mst_pl (by decide), r1 _ (by omega), hr]
      exact congrArg (μ 3) (by omega)
    · rw [mst_pl p0, f2 p q p3, mst_pl p0, f1 p q p3, mst_pl p0]
    · rw [mst_ix q3, f2 0 q (by decide), mst_ix q3, f1 0 q (by decide), mst_ix q8]
  · rw [if_neg (by omega), mm_act_85]
    obtain ⟨μ2, e2, r2, g2, f2⟩ := act87_lp (x := x) (N := N) (by omega) 60 0 FU (mst μ 0 8 0) (by omega) (by have := FU_ge; omega) (by rw [mst_ix (by decide)]; exact h0) (fun q hq => by omega)
    rw [show ((0 : Nat) : Int) = 0 from rfl] at e2
    rw [e2, mm_act_119, bnd_eq, f2 0 3 (by decide), mst_ix (by decide), h0, w32_eq (by omega) (by omega)]
    refine ⟨_, rfl, ?_, ?_, ⟨N, N, by omega, by omega, h0, ?_, fun j hj => ?_, fun i hi j hj => ?_⟩, fun p q p0 p1 p2 p3 => ?_, fun q q3 q8 => ?_⟩
    · funext q
      rw [mst_pl (by decide), f2 _ _ (by decide), mst_pl (by decide)]
    · rw [mst_ix (by decide), f2 _ _ (by decide), mst_same]
    · rw [mst_same]; omega
    · rw [hr, mst_pl (by decide), r2 j hj, mst_pl (by decide)]
    · rw [hr, mst_pl (by decide), g2 _ (by omega), mst_pl (by decide), hr, Nat.sub_self, Nat.add_zero]
    · rw [mst_pl p0, f2 p q p3, mst_pl p0]
    · rw [mst_ix q3, f2 0 q (by decide), mst_ix q8]
theorem act_neg {μ : Mem} {x : Int} (hx : x < 0) : ∃ μ', mm_act x μ = some (x, μ') ∧ (∀ j, j < 60 → μ' 1 j = μ 2 j) ∧ μ' 0 8 = 0 ∧ (∀ p q, p ≠ 0 → p ≠ 1 → μ' p q = μ p q) ∧ ∀ q, q ≠ 8 → μ' 0 q = μ 0 q := by
  rw [mm_act, bnd_eq, if_neg (by omega)]
  obtain ⟨μ1, e1, r1, f1⟩ := act11_lp (x := x) 60 0 FU (mst μ 0 8 0) (by omega) (by have := FU_ge; omega) (fun q hq => by omega)
  rw [show ((0 : Nat) : Int) = 0 from rfl] at e1
  rw [e1, mm_act_35]
  exact ⟨μ1, rfl, fun j hj => by rw [r1 j hj, mst_pl (by decide)], by rw [f1 _ _ (by decide), mst_same], fun p q p0 p1 => by rw [f1 p q p1, mst_pl p0], fun q q8 => by rw [f1 _ _ (by decide), mst_ix q8]⟩
