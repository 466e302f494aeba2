/-! mixes: numbers with eight digits of three; what two are together; units; prices -/
def madd : Nat → Int → Int → Int
  | 0, _, _ => 0
  | k + 1, a, b => (a % 3 + b % 3) % 3 + 3 * madd k (a / 3) (b / 3)
def p3 : Nat → Int
  | 0 => 1
  | k + 1 => 3 * p3 k
def unk : Nat → Int → Int
  | 0, _ => 0
  | k + 1, m => m % 3 + unk k (m / 3)
def prk : Nat → (Nat → Int) → Int → Int
  | 0, _, _ => 0
  | k + 1, p, m => m % 3 * p 0 + prk k (fun j => p (j + 1)) (m / 3)
theorem mx_ex : ∃ f : Int → Int → Int, ∀ a b, f a b = madd 8 a b := ⟨_, fun _ _ => rfl⟩
noncomputable def mx : Int → Int → Int := Classical.choose mx_ex
theorem mx_def (a b : Int) : mx a b = madd 8 a b := Classical.choose_spec mx_ex a b
theorem un_ex : ∃ f : Int → Int, ∀ a, f a = unk 8 a := ⟨_, fun _ => rfl⟩
noncomputable def un : Int → Int := Classical.choose un_ex
theorem un_def (a : Int) : un a = unk 8 a := Classical.choose_spec un_ex a
theorem prc_ex : ∃ f : (Nat → Int) → Int → Int, ∀ p a, f p a = prk 8 p a := ⟨_, fun _ _ => rfl⟩
noncomputable def prc : (Nat → Int) → Int → Int := Classical.choose prc_ex
theorem prc_def (p : Nat → Int) (a : Int) : prc p a = prk 8 p a := Classical.choose_spec prc_ex p a
abbrev isM (m : Int) : Prop := 0 ≤ m ∧ m < 6561
theorem p3_pos (k : Nat) : 0 < p3 k := by
  induction k with
  | zero => decide
  | succ k ih => simp only [p3]; omega
theorem madd_nn (k : Nat) : ∀ a b, 0 ≤ madd k a b := by
  induction k with
  | zero => intro a b; simp [madd]
  | succ k ih => intro a b; have := ih (a / 3) (b / 3); simp only [madd]; omega
theorem madd_lt (k : Nat) : ∀ a b, madd k a b < p3 k := by
  induction k with
  | zero => intro a b; simp [madd, p3]
  | succ k ih => intro a b; have := ih (a / 3) (b / 3); simp only [madd, p3]; omega
theorem mx_isM (a b : Int) : isM (mx a b) := by rw [mx_def]; exact ⟨madd_nn 8 a b, madd_lt 8 a b⟩
theorem madd_comm (k : Nat) : ∀ a b, madd k a b = madd k b a := by
  induction k with
  | zero => intro a b; rfl
  | succ k ih => intro a b; simp only [madd]; rw [ih (a / 3) (b / 3), Int.add_comm (a % 3)]
theorem madd_mod (k : Nat) (a b : Int) : madd (k + 1) a b % 3 = (a % 3 + b % 3) % 3 := by simp only [madd]; omega
theorem madd_div (k : Nat) (a b : Int) : madd (k + 1) a b / 3 = madd k (a / 3) (b / 3) := by simp only [madd]; omega
theorem madd_assoc (k : Nat) : ∀ a b c, madd k (madd k a b) c = madd k a (madd k b c) := by
  induction k with
  | zero => intro a b c; rfl
  | succ k ih =>
    intro a b c
    rw [madd, madd_mod, madd_div, ih, madd, madd_mod, madd_div]
    omega
theorem madd_zero (k : Nat) : ∀ a, 0 ≤ a → a < p3 k → madd k a 0 = a := by
  induction k with
  | zero => intro a h0 h1; simp only [p3] at h1; simp only [madd]; omega
  | succ k ih =>
    intro a h0 h1
    simp only [p3] at h1
    have := ih (a / 3) (by omega) (by omega)
    simp only [madd, Int.zero_ediv, this]
    omega
theorem madd_three (k : Nat) : ∀ a, madd k a (madd k a a) = 0 := by
  induction k with
  | zero => intro a; rfl
  | succ k ih =>
    intro a
    rw [madd, madd_mod, madd_div, ih]
    omega
theorem mx_comm (a b : Int) : mx a b = mx b a := by rw [mx_def, mx_def]; exact madd_comm 8 a b
theorem mx_assoc (a b c : Int) : mx (mx a b) c = mx a (mx b c) := by simp only [mx_def]; exact madd_assoc 8 a b c
theorem mx_zero {a : Int} (h : isM a) : mx a 0 = a := by rw [mx_def]; exact madd_zero 8 a h.1 h.2
theorem mx_zero' {a : Int} (h : isM a) : mx 0 a = a := by rw [mx_comm]; exact mx_zero h
theorem mx_three (a : Int) : mx a (mx a a) = 0 := by simp only [mx_def]; exact madd_three 8 a
theorem unk_nn (k : Nat) : ∀ m, 0 ≤ unk k m ∧ unk k m ≤ 2 * k := by
  induction k with
  | zero => intro m; simp [unk]
  | succ k ih => intro m; have := ih (m / 3); simp only [unk]; omega
theorem un_b (m : Int) : 0 ≤ un m ∧ un m ≤ 16 := by rw [un_def]; exact unk_nn 8 m
theorem prk_b (k : Nat) : ∀ (p : Nat → Int) (m : Int), (∀ j, j < k → 0 ≤ p j ∧ p j ≤ 99) → 0 ≤ prk k p m ∧ prk k p m ≤ 198 * k := by
  induction k with
  | zero => intro p m _; simp [prk]
  | succ k ih =>
    intro p m hp
    have h1 := ih (fun j => p (j + 1)) (m / 3) (fun j hj => hp (j + 1) (by omega))
    have h2 := hp 0 (by omega)
    simp only [prk]
    rcases (show m % 3 = 0 ∨ m % 3 = 1 ∨ m % 3 = 2 by omega) with h | h | h <;> rw [h] <;> omega
theorem prk_cong (k : Nat) : ∀ (p q : Nat → Int) (m : Int), (∀ j, j < k → p j = q j) → prk k p m = prk k q m := by
  induction k with
  | zero => intro p q m _; rfl
  | succ k ih =>
    intro p q m h
    simp only [prk]
    rw [h 0 (by omega), ih _ (fun j => q (j + 1)) (m / 3) (fun j hj => h (j + 1) (by omega))]
/-! the machine's numbers, made plain -/
theorem w32_eq {x : Int} (h1 : -2147483648 ≤ x) (h2 : x < 2147483648) : w32 x = x := w32_id ⟨h1, h2⟩
theorem tmE {a b : Int} (h : 0 ≤ a) : Int.tmod a b = a % b := Int.tmod_eq_emod_of_nonneg h
theorem tdE {a b : Int} (h : 0 ≤ a) : Int.tdiv a b = a / b := Int.tdiv_eq_ediv_of_nonneg h
theorem bnd_eq {α β : Type} (a : α) (f : α → β) : bnd a f = f a := rfl
theorem aget_eq {μ : Mem} {k n : Nat} {i : Int} (h1 : 0 ≤ i) (h2 : i < (n : Int)) : aget μ k n i = some (μ k i.toNat) := by
  rw [aget, if_pos ⟨h1, h2⟩]
theorem aput_eq {μ : Mem} {k n : Nat} {i x : Int} (h1 : 0 ≤ i) (h2 : i < (n : Int)) : aput μ k n i x = some (mst μ k i.toNat x) := by
  rw [aput, if_pos ⟨h1, h2⟩]
theorem sb {α β : Type} (a : α) (f : α → Option β) : (some a).bind f = f a := rfl
theorem mst_same (μ : Mem) (k i : Nat) (v : Int) : mst μ k i v k i = v := by simp [mst]
theorem mst_ne {μ : Mem} {k i a b : Nat} {v : Int} (h : ¬ (a = k ∧ b = i)) : mst μ k i v a b = μ a b := by rw [mst, if_neg h]
theorem mst_pl {μ : Mem} {k i a b : Nat} {v : Int} (h : a ≠ k) : mst μ k i v a b = μ a b := mst_ne (fun z => h z.1)
theorem mst_ix {μ : Mem} {k i b : Nat} {v : Int} (h : b ≠ i) : mst μ k i v k b = μ k b := mst_ne (fun z => h z.2)
theorem FU_ge : 90000 ≤ FU := by decide
/-! the reference's mixed, units, power -/
theorem unk_0 (k : Nat) : unk k 0 = 0 := by
  induction k with
  | zero => rfl
  | succ k ih => simp only [unk, Int.zero_ediv, ih]; omega
theorem xisMix_eq (v : Int) : xx_isMix v = some (if isM v then 1 else 0) := by
  rw [xx_isMix]
  by_cases h1 : v < 0
  · rw [if_pos h1, xx_isMix_15, xx_isMix_16, if_pos (Or.inl rfl), if_neg (by unfold isM; omega)]
  · rw [if_neg h1]
    by_cases h2 : 6561 ≤ v
    · rw [if_pos h2, xx_isMix_15, xx_isMix_16, if_pos (Or.inl rfl), if_neg (by unfold isM; omega)]
    · rw [if_neg h2, xx_isMix_16, if_pos (Or.inr rfl), if_pos (by unfold isM; omega)]
