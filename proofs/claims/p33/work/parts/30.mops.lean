/-! the reference's orders on a row -/
theorem Wf_acc {a : Nat → Int} {t : Int} (h : Wf a t) (ht : t ≤ 2000000000) (k : Nat) (h1 : 52 ≤ k) (h2 : k < 60) : -2000000000 ≤ a k ∧ a k ≤ 2000000000 := by
  have := h.2.2.2.2.2.2.2.2 (k - 52) (by omega)
  rw [show 52 + (k - 52) = k by omega] at this
  omega
theorem w10 {k : Int} (h0 : 0 ≤ k) (h1 : k < 13) : w32 (w32 (9 + w32 (2 * k)) + 1) = 10 + 2 * k := by
  rw [w32_eq (x := 2 * k) (by omega) (by omega), w32_eq (x := 9 + 2 * k) (by omega) (by omega), w32_eq (by omega) (by omega)]; omega
theorem w9 {k : Int} (h0 : 0 ≤ k) (h1 : k < 13) : w32 (9 + w32 (2 * k)) = 9 + 2 * k := by
  rw [w32_eq (x := 2 * k) (by omega) (by omega), w32_eq (by omega) (by omega)]
theorem n10 {k : Int} (h0 : 0 ≤ k) : (10 + 2 * k).toNat = 10 + 2 * k.toNat := by omega
theorem n9 {k : Int} (h0 : 0 ≤ k) : (9 + 2 * k).toNat = 9 + 2 * k.toNat := by omega
theorem mixA_M {a : Nat → Int} {t : Int} (h : Wf a t) {k : Int} (h0 : 0 ≤ k) (h1 : k < a 8) : isM (mixA a k) := (h.2.2.1 k.toNat (by omega)).1