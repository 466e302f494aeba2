/-! what can be made; the fewest jars -/
noncomputable def dst (f : Nat → Int) : Nat → Int
  | 0 => 0
  | k + 1 => dst f k + bi (¬ ∃ m, m < k ∧ f m = f k)
theorem dst_b (f : Nat → Int) (k : Nat) : 0 ≤ dst f k ∧ dst f k ≤ k := by
  induction k with
  | zero => rw [dst]; omega
  | succ k ih => have := bi_b (¬ ∃ m, m < k ∧ f m = f k); rw [dst]; omega
theorem ex_succ {f : Nat → Int} {k : Nat} {v : Int} : (∃ m, m < k + 1 ∧ f m = v) ↔ ((∃ m, m < k ∧ f m = v) ∨ f k = v) := by
  constructor
  · rintro ⟨m, h1, h2⟩
    by_cases c : m = k
    · subst c; exact Or.inr h2
    · exact Or.inl ⟨m, by omega, h2⟩
  · rintro (⟨m, h1, h2⟩ | h)
    · exact ⟨m, by omega, h2⟩
    · exact ⟨k, by omega, h⟩
theorem xfill_lp {x : Int} (j : Nat) : ∀ (k n : Nat) (μ : Mem), k + j = 206 → j < n → (∀ q, q < k → μ 68 q = x) → ∃ μ', jf_fill_c68_5 n x k 206 μ = some μ' ∧ (∀ q, q < 206 → μ' 68 q = x) ∧ ∀ p q, p ≠ 68 → μ' p q = μ p q := by
  induction j with
  | zero =>
    intro k n μ hk hn h
    obtain ⟨n, rfl⟩ : ∃ m, n = m + 1 := ⟨n - 1, by omega⟩
    rw [jf_fill_c68_5, if_pos (by omega), jf_fill_c68_20]
    exact ⟨μ, rfl, fun q hq => h q (by omega), fun _ _ _ => rfl⟩
  | succ j ih =>
    intro k n μ hk hn h
    obtain ⟨n, rfl⟩ : ∃ m, n = m + 1 := ⟨n - 1, by omega⟩
    have e3 : w32 ((k : Int) + 1) = ((k + 1 : Nat) : Int) := by rw [w32_eq (by omega) (by omega)]; omega
    rw [jf_fill_c68_5, if_neg (by omega), aput_eq (by omega) (by omega), sb, bnd_eq, e3, Int.toNat_natCast]
    obtain ⟨μ', e, r, f⟩ := ih (k + 1) n (mst μ 68 k x) (by omega) (by omega) (fun q hq => by
      by_cases c : q = k
      · subst c; rw [mst_same]
      · rw [mst_ix c]; exact h q (by omega))
    exact ⟨μ', e, r, fun p q hp => by rw [f p q hp, mst_pl hp]⟩
theorem xdt_lp {f : Nat → Int} {N : Nat} (hN : N ≤ 4096) (hf : ∀ m, m < N → isM (f m)) (j : Nat) : ∀ (k n : Nat) (μ : Mem), k + j = N → j < n → μ 66 2 = (N : Nat) → (∀ m, m < N → μ 67 m = f m) → (∀ v, isM v → (bt (μ 68 (v / 32).toNat) (v % 32).toNat = true ↔ ∃ m, m < k ∧ f m = v)) → ∃ μ', xc_differentTastes_12 n (dst f k) k μ = some (dst f N, μ') ∧ ∀ p q, p ≠ 68 → μ' p q = μ p q := by
  induction j with
  | zero =>
    intro k n μ hk hn h66 _ _
    obtain ⟨n, rfl⟩ : ∃ m, n = m + 1 := ⟨n - 1, by omega⟩
    have : k = N := by omega
    subst this
    rw [xc_differentTastes_12, h66, if_pos (by omega), xc_differentTastes_75]
    exact ⟨μ, rfl, fun _ _ _ => rfl⟩
  | succ j ih =>
    intro k n μ hk hn h66 h67 h68
    obtain ⟨n, rfl⟩ : ∃ m, n = m + 1 := ⟨n - 1, by omega⟩
    have e3 : w32 ((k : Int) + 1) = ((k + 1 : Nat) : Int) := by rw [w32_eq (by omega) (by omega)]; omega
    have fk := hf k (by omega)
    have fk1 := fk.1
    have fk2 := fk.2
    have db := dst_b f k
    have d1 : w32 (Int.tdiv (f k) 32) = f k / 32 := by rw [Int.tdiv_eq_ediv_of_nonneg fk.1, w32_eq (by omega) (by omega)]
    have d2 : Int.tmod (f k) 32 = ((f k % 32).toNat : Int) := by rw [Int.tmod_eq_emod_of_nonneg fk.1]; omega
    have hj : (f k % 32).toNat < 32 := by omega
    rw [xc_differentTastes_12, h66, if_neg (by omega), aget_eq (by omega) (by omega), sb, Int.toNat_natCast, h67 k (by omega), d1, bnd_eq, sb, d2, bnd_eq, aget_eq (by omega) (by omega), sb]
    by_cases c : ∃ m, m < k ∧ f m = f k
    · have hb := (h68 (f k) fk).mpr c
      rw [if_neg (fun h => by rw [(bt_and hj).mp h] at hb; cases hb), xc_differentTastes_69, bnd_eq, e3]
      obtain ⟨μ', e, fr⟩ := ih (k + 1) n μ (by omega) (by omega) h66 h67 (fun v hv => (h68 v hv).trans ⟨fun h => ex_succ.mpr (Or.inl h), fun h => (ex_succ.mp h).elim id (fun z => by rw [← z]; exact c)⟩)
      rw [dst, bi_neg (fun h => h c), Int.add_zero] at e
      exact ⟨μ', e, fr⟩
    · have hb : bt (μ 68 (f k / 32).toNat) (f k % 32).toNat = false := by
        cases hz : bt (μ 68 (f k / 32).toNat) (f k % 32).toNat with
        | false => rfl
        | true => exact absurd ((h68 (f k) fk).mp hz) c
      rw [if_pos ((bt_and hj).mpr hb), sb, aput_eq (by omega) (by omega), sb, w32_eq (by omega) (by omega), bnd_eq, xc_differentTastes_69, bnd_eq, e3]
      obtain ⟨μ', e, fr⟩ := ih (k + 1) n (mst μ 68 (f k / 32).toNat (or32 (μ 68 (f k / 32).toNat) (shl32 1 ((f k % 32).toNat : Int)))) (by omega) (by omega) (by rw [mst_pl (by decide)]; exact h66) (fun m hm => by rw [mst_pl (by decide)]; exact h67 m hm) (fun v hv => by
        have hv1 := hv.1
        have hv2 := hv.2
        by_cases d : v / 32 = f k / 32
        · rw [d, mst_same, bt_or hj (by omega), Bool.or_eq_true, decide_eq_true_eq, ex_succ, ← d, h68 v hv]
          refine or_congr Iff.rfl ⟨fun h => by omega, fun h => by rw [h]⟩
        · have hne : (v / 32).toNat ≠ (f k / 32).toNat := by omega
          rw [mst_ix hne, h68 v hv, ex_succ]
          exact ⟨Or.inl, fun h => h.resolve_right (fun z => d (by rw [z]))⟩)
      rw [dst, bi_pos c] at e
      exact ⟨μ', e, fun p q hp => by rw [fr p q hp, mst_pl hp]⟩
