/-! the class takes up the mix that it read -/
theorem xmr_lp {A : Nat → Int} {μ : Mem} (h65 : ∀ q, q < 8 → μ 65 q = A q) (hA : ∀ j, j < 8 → 0 ≤ A j) (j : Nat) : ∀ (k n : Nat), k + j = 8 → j < n → xw_mixRead_4 n (mS A k) k μ = some (mS A 8) := by
  induction j with
  | zero =>
    intro k n hk hn
    obtain ⟨n, rfl⟩ : ∃ m, n = m + 1 := ⟨n - 1, by omega⟩
    have : k = 8 := by omega
    subst this
    rw [xw_mixRead_4, if_pos (by decide), xw_mixRead_33]
  | succ j ih =>
    intro k n hk hn
    obtain ⟨n, rfl⟩ : ∃ m, n = m + 1 := ⟨n - 1, by omega⟩
    have hm := mS_b A (k + 1)
    have hm0 := mS_b A k
    have hp1 := p3_le (k := k) (by omega)
    have hp2 : p3 (k + 1) ≤ 6561 := by rw [p3]; omega
    rw [mS] at hm
    have e3 : w32 ((k : Int) + 1) = ((k + 1 : Nat) : Int) := by rw [w32_eq (by omega) (by omega)]; omega
    rw [xw_mixRead_4, if_neg (by omega), aget_eq (by omega) (by omega), sb, pget_eq (by omega), sb, Int.toNat_natCast, h65 k (by omega), tmE (hA k (by omega)), w32_eq (x := A k % 3 * p3 k) (by omega) (by omega), w32_eq (x := mS A k + A k % 3 * p3 k) (by omega) (by omega), bnd_eq, e3, bnd_eq]
    exact ih (k + 1) n (by omega) (by omega)
theorem xmr_eq {A : Nat → Int} {μ : Mem} (h65 : ∀ q, q < 8 → μ 65 q = A q) (hA : ∀ j, j < 8 → 0 ≤ A j) : xw_mixRead μ = some (mS A 8) := by
  have := xmr_lp h65 hA 8 0 FU (by omega) (by have := FU_ge; omega)
  rw [xw_mixRead]
  exact this
