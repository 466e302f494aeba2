/-! bits -/
def bt (x : Int) (j : Nat) : Bool := (Int32.ofInt x).toBitVec.getLsbD j
theorem shl_tw : ∀ j : Fin 32, (Int32.ofInt 1 <<< (Int32.ofInt (j.val : Int) &&& 31)).toBitVec = BitVec.twoPow 32 j.val := by decide +kernel
theorem shl_b {j : Nat} (h : j < 32) : (Int32.ofInt (shl32 1 (j : Int))).toBitVec = BitVec.twoPow 32 j := by
  unfold shl32
  rw [Int32.ofInt_toInt]
  exact shl_tw ⟨j, h⟩
theorem bt_and {x : Int} {j : Nat} (h : j < 32) : and32 x (shl32 1 (j : Int)) = 0 ↔ bt x j = false := by
  unfold and32 bt
  have e : (Int32.ofInt x &&& Int32.ofInt (shl32 1 (j : Int))).toBitVec = (Int32.ofInt x).toBitVec &&& BitVec.twoPow 32 j := by
    rw [← shl_b h]; rfl
  have e2 : (Int32.ofInt x &&& Int32.ofInt (shl32 1 (j : Int))).toInt = ((Int32.ofInt x).toBitVec &&& BitVec.twoPow 32 j).toInt := by rw [← e]; rfl
  rw [e2, BitVec.and_twoPow]
  cases hc : (Int32.ofInt x).toBitVec.getLsbD j with
  | false => simp
  | true =>
    simp only [if_true]
    constructor
    · intro h0
      exfalso
      have hz : BitVec.twoPow 32 j = 0#32 := BitVec.eq_of_toInt_eq (by rw [h0]; rfl)
      have := congrArg (fun b => BitVec.getLsbD b j) hz
      simp [BitVec.getLsbD_twoPow, h] at this
    · intro h0; cases h0
theorem bt_or {x : Int} {i j : Nat} (h : j < 32) (hi : i < 32) : bt (or32 x (shl32 1 (j : Int))) i = (bt x i || decide (j = i)) := by
  unfold or32 bt
  rw [Int32.ofInt_toInt]
  have e : (Int32.ofInt x ||| Int32.ofInt (shl32 1 (j : Int))).toBitVec = (Int32.ofInt x).toBitVec ||| BitVec.twoPow 32 j := by
    rw [← shl_b h]; rfl
  rw [e, BitVec.getLsbD_or, BitVec.getLsbD_twoPow]
  simp [h]
theorem bt_0 (j : Nat) : bt 0 j = false := by
  unfold bt
  have : (Int32.ofInt 0).toBitVec = 0#32 := rfl
  rw [this, BitVec.getLsbD_zero]
def popF : Nat → Nat → Int
  | 0, _ => 0
  | k + 1, m => ((m % 2 : Nat) : Int) + popF k (m / 2)
theorem popF_0 (k : Nat) : popF k 0 = 0 := by
  induction k with
  | zero => rfl
  | succ k ih => rw [popF, ih]; rfl
theorem popF_b (k : Nat) : ∀ m, 0 ≤ popF k m ∧ popF k m ≤ k := by
  induction k with
  | zero => intro m; rw [popF]; omega
  | succ k ih => intro m; have := ih (m / 2); rw [popF]; omega
def w3 (x : Int) : Int := (x + 2147483648) % 4294967296 - 2147483648
theorem w3_eq (x : Int) : w32 x = w3 x := w32_def x
def bcx (a : Int) : Int :=
  let v1 := w3 (a - and32 (ushr32 a 1) 1431655765)
  let v2 := w3 (and32 v1 858993459 + and32 (ushr32 v1 2) 858993459)
  let v3 := and32 (w3 (v2 + ushr32 v2 4)) 252645135
  let v4 := w3 (v3 + ushr32 v3 8)
  let v5 := w3 (v4 + ushr32 v4 16)
  and32 v5 63
theorem bcx_pop : ∀ a b : Fin 64, bcx ((64 * a.val + b.val : Nat) : Int) = popF 12 (64 * a.val + b.val) := by decide +kernel
theorem bitc_eq {m : Nat} (h : m < 4096) : jb_bitCount (m : Int) = some (popF 12 m) := by
  have hb := bcx_pop ⟨m / 64, by omega⟩ ⟨m % 64, by omega⟩
  rw [show 64 * (⟨m / 64, by omega⟩ : Fin 64).val + (⟨m % 64, by omega⟩ : Fin 64).val = m from by dsimp only; omega] at hb
  rw [← hb]
  simp only [jb_bitCount, bnd_eq, w3_eq]
  rfl
