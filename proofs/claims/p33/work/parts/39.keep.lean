/-! keeping, restoring, undoing, typing -/
theorem bv16 (n : Nat) (h : n < 65536) : (BitVec.setWidth 32 (BitVec.setWidth 16 (BitVec.ofNat 32 n))).toInt = (n : Int) := by
  have e : (BitVec.setWidth 32 (BitVec.setWidth 16 (BitVec.ofNat 32 n))).toNat = n := by
    rw [BitVec.toNat_setWidth, BitVec.toNat_setWidth, BitVec.toNat_ofNat]
    omega
  rw [BitVec.toInt_eq_toNat_of_lt (by rw [e]; omega), e]
theorem ncc_id {x : Int} (h0 : 0 ≤ x) (h1 : x < 65536) : ncc x = x := by
  rw [ncc_def]
  obtain ⟨n, rfl⟩ := Int.eq_ofNat_of_zero_le h0
  have hn : n < 65536 := by omega
  rw [Int32.ofInt_eq_ofNat, ← bv16 n hn]
  rfl