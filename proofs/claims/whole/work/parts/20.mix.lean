/-! mixes: numbers with eight digits of three; what two are together; units; prices -/
def madd : Nat → Int → Int → Int
  | 0, _, _ => 0
  | k + 1, a, b => (a % 3 + b % 3) % 3 + 3 * madd k (a / 3) (b / 3)
def p3 : Nat → Int
  | 0 => 1
  | k + 1 => 3 * p3 k
def unk : Nat → Int → Int
  | 0, _ => 0
  | k + 1, m => m % 3 + unk k (m / 3)
def prk : Nat → (Nat → Int) → Int → Int
  | 0, _, _ => 0
  | k + 1, p, m => m % 3 * p 0 + prk k (fun j => p (j + 1)) (m / 3)
theorem mx_ex : ∃ f : Int → Int → Int, ∀ a b, f a b = madd 8 a b := ⟨_, fun _ _ => rfl⟩
noncomputable def mx : Int → Int → Int := Classical.choose mx_ex
theorem mx_def (a b : Int) : mx a b = madd 8 a b := Classical.choose_spec mx_ex a b
theorem un_ex : ∃ f : Int → Int, ∀ a, f a = unk 8 a := ⟨_, fun _ => rfl⟩
noncomputable def un : Int → Int := Classical.choose un_ex
theorem un_def (a : Int) : un a = unk 8 a := Classical.choose_spec un_ex a
theorem prc_ex : ∃ f : (Nat → Int) → Int → Int, ∀ p a, f p a = prk 8 p a := ⟨_, fun _ _ => rfl⟩
noncomputable def prc : (Nat → Int) → Int → Int := Classical.choose prc_ex
theorem prc_def (p : Nat → Int) (a : Int) : prc p a = prk 8 p a := Classical.choose_spec prc_ex p a
abbrev isM (m : Int) : Prop := 0 ≤ m ∧ m < 6561
theorem p3_pos (k : Nat) : 0 < p3 k := by
  induction k with
  | zero => decide
  | succ k ih => simp only [p3]; omega
theorem madd_nn (k : Nat) : ∀ a b, 0 ≤ madd k a b := by
  induction k with
  | zero => intro a b; simp [madd]
  | succ k ih => intro a b; have := ih (a / 3) (b / 3); simp only [madd]; omega
theorem madd_lt (k : Nat) : ∀ a b, madd k a b < p3 k := by
  induction k with
  | zero => intro a b; simp [madd, p3]
  | succ k ih => intro a b; have := ih (a / 3) (b / 3); simp only [madd, p3]; omega
theorem mx_isM (a b : Int) : isM (mx a b) := by rw [mx_def]; exact ⟨madd_nn 8 a b, madd_lt 8 a b⟩
theorem madd_comm (k : Nat) : ∀ a b, madd k a b = madd k b a := by
  induction k with
  | zero => intro a b; rfl
  | succ k ih => intro a b; simp only [madd]; rw [ih (a / 3) (b / 3), Int.add_comm (a % 3)]
theorem madd_mod (k : Nat) (a b : Int) : madd (k + 1) a b % 3 = (a % 3 + b % 3) % 3 := by simp only [madd]; omega
theorem madd_div (k : Nat) (a b : Int) : madd (k + 1) a b / 3 = madd k (a / 3) (b / 3) := by simp only [madd]; omega
theorem madd_assoc (k : Nat) : ∀ a b c, madd k (madd k a b) c = madd k a (madd k b c) := by
  induction k with
  | zero => intro a b c; rfl
  | succ k ih =>
    intro a b c
    rw [madd, madd_mod, madd_div, ih, madd, madd_mod, madd_div]
    omega
theorem madd_zero (k : Nat) : ∀ a, 0 ≤ a → a < p3 k → madd k a 0 = a := by
  induction k with
  | zero => intro a h0 h1; simp only [p3] at h1; simp only [madd]; omega
  | succ k ih =>
    intro a h0 h1
    simp only [p3] at h1
    have := ih (a / 3) (by omega) (by omega)
    simp only [madd, Int.zero_ediv, this]
    omega
theorem madd_three (k : Nat) : ∀ a, madd k a (madd k a a) = 0 := by
  induction k with
  | zero => intro a; rfl
  | succ k ih =>
    intro a
    rw [madd, madd_mod, madd_div, ih]
    omega
theorem mx_comm (a b : Int) : mx a b = mx b a := by rw [mx_def, mx_def]; exact madd_comm 8 a b
theorem mx_assoc (a b c : Int) : mx (mx a b) c = mx a (mx b c) := by simp only [mx_def]; exact madd_assoc 8 a b c
theorem mx_zero {a : Int} (h : isM a) : mx a 0 = a := by rw [mx_def]; exact madd_zero 8 a h.1 h.2
theorem mx_zero' {a : Int} (h : isM a) : mx 0 a = a := by rw [mx_comm]; exact mx_zero h
theorem mx_three (a : Int) : mx a (mx a a) = 0 := by simp only [mx_def]; exact madd_three 8 a
theorem unk_nn (k : Nat) : ∀ m, 0 ≤ unk k m ∧ unk k m ≤ 2 * k := by
  induction k with
  | zero => intro m; simp [unk]
  | succ k ih => intro m; have := ih (m / 3); simp only [unk]; omega
theorem un_b (m : Int) : 0 ≤ un m ∧ un m ≤ 16 := by rw [un_def]; exact unk_nn 8 m
theorem prk_b (k : Nat) : ∀ (p : Nat → Int) (m : Int), (∀ j, j < k → 0 ≤ p j ∧ p j ≤ 99) → 0 ≤ prk k p m ∧ prk k p m ≤ 198 * k := by
  induction k with
  | zero => intro p m _; simp [prk]
  | succ k ih =>
    intro p m hp
    have h1 := ih (fun j => p (j + 1)) (m / 3) (fun j hj => hp (j + 1) (by omega))
    have h2 := hp 0 (by omega)
    simp only [prk]
    rcases (show m % 3 = 0 ∨ m % 3 = 1 ∨ m % 3 = 2 by omega) with h | h | h <;> rw [h] <;> omega
theorem prk_cong (k : Nat) : ∀ (p q : Nat → Int) (m : Int), (∀ j, j < k → p j = q j) → prk k p m = prk k q m := by
  induction k with
  | zero => intro p q m _; rfl
  | succ k ih =>
    intro p q m h
    simp only [prk]
    rw [h 0 (by omega), ih _ (fun j => q (j + 1)) (m / 3) (fun j hj => h (j + 1) (by omega))]
/-! the machine's numbers, made plain -/
theorem w32_eq {x : Int} (h1 : -2147483648 ≤ x) (h2 : x < 2147483648) : w32 x = x := w32_id ⟨h1, h2⟩
theorem tmE {a b : Int} (h : 0 ≤ a) : Int.tmod a b = a % b := Int.tmod_eq_emod_of_nonneg h
theorem tdE {a b : Int} (h : 0 ≤ a) : Int.tdiv a b = a / b := Int.tdiv_eq_ediv_of_nonneg h
theorem bnd_eq {α β : Type} (a : α) (f : α → β) : bnd a f = f a := rfl
theorem aget_eq {μ : Mem} {k n : Nat} {i : Int} (h1 : 0 ≤ i) (h2 : i < (n : Int)) : aget μ k n i = some (μ k i.toNat) := by
  rw [aget, if_pos ⟨h1, h2⟩]
theorem aput_eq {μ : Mem} {k n : Nat} {i x : Int} (h1 : 0 ≤ i) (h2 : i < (n : Int)) : aput μ k n i x = some (mst μ k i.toNat x) := by
  rw [aput, if_pos ⟨h1, h2⟩]
theorem sb {α β : Type} (a : α) (f : α → Option β) : (some a).bind f = f a := rfl
theorem mst_same (μ : Mem) (k i : Nat) (v : Int) : mst μ k i v k i = v := by simp [mst]
theorem mst_ne {μ : Mem} {k i a b : Nat} {v : Int} (h : ¬ (a = k ∧ b = i)) : mst μ k i v a b = μ a b := by rw [mst, if_neg h]
theorem mst_pl {μ : Mem} {k i a b : Nat} {v : Int} (h : a ≠ k) : mst μ k i v a b = μ a b := mst_ne (fun z => h z.1)
theorem mst_ix {μ : Mem} {k i b : Nat} {v : Int} (h : b ≠ i) : mst μ k i v k b = μ k b := mst_ne (fun z => h z.2)
theorem FU_ge : 90000 ≤ FU := by decide
/-! the reference's mixed, units, power -/
theorem mixed_lp (j : Nat) : ∀ (k n : Nat) (x a b : Int), k + j = 8 → j < n → 0 ≤ x → x < p3 k → 0 ≤ a → a < 6561 → 0 ≤ b → b < 6561 → mm_mixed_13 n x (p3 k) a b k = some (x + p3 k * madd j a b) := by
  induction j with
  | zero =>
    intro k n x a b hk hn h1 h2 _ _ _ _
    obtain ⟨n, rfl⟩ : ∃ m, n = m + 1 := ⟨n - 1, by omega⟩
    have : k = 8 := by omega
    subst this
    simp [mm_mixed_13, mm_mixed_58, madd]
  | succ j ih =>
    intro k n x a b hk hn h1 h2 ha ha2 hb hb2
    obtain ⟨n, rfl⟩ : ∃ m, n = m + 1 := ⟨n - 1, by omega⟩
    have hp : p3 k ≤ 2187 ∧ 0 < p3 k := by
      have : k ≤ 7 := by omega
      rcases (show k = 0 ∨ k = 1 ∨ k = 2 ∨ k = 3 ∨ k = 4 ∨ k = 5 ∨ k = 6 ∨ k = 7 by omega) with rfl | rfl | rfl | rfl | rfl | rfl | rfl | rfl <;> decide
    have hd : ∃ d : Int, (a % 3 + b % 3) % 3 = d ∧ (d = 0 ∨ d = 1 ∨ d = 2) := ⟨_, rfl, by omega⟩
    obtain ⟨d, hd, hd3⟩ := hd
    have e1 : w32 (Int.tmod a 3 + Int.tmod b 3) = a % 3 + b % 3 := by rw [tmE ha, tmE hb]; exact w32_eq (by omega) (by omega)
    have e2 : Int.tmod (a % 3 + b % 3) 3 = d := by rw [tmE (by omega)]; exact hd
    have e3 : w32 (d * p3 k) = d * p3 k := by rcases hd3 with rfl | rfl | rfl <;> exact w32_eq (by omega) (by omega)
    have e4 : w32 (x + d * p3 k) = x + d * p3 k := by rcases hd3 with rfl | rfl | rfl <;> exact w32_eq (by omega) (by omega)
    have e5 : w32 (p3 k * 3) = p3 (k + 1) := by rw [w32_eq (by omega) (by omega)]; simp only [p3]; omega
    have e6 : w32 (Int.tdiv a 3) = a / 3 := by rw [tdE ha]; exact w32_eq (by omega) (by omega)
    have e7 : w32 (Int.tdiv b 3) = b / 3 := by rw [tdE hb]; exact w32_eq (by omega) (by omega)
    have e8 : w32 ((k : Int) + 1) = ((k + 1 : Nat) : Int) := by rw [w32_eq (by omega) (by omega)]; omega
    have h3 : 0 ≤ x + d * p3 k ∧ x + d * p3 k < p3 (k + 1) := by rcases hd3 with rfl | rfl | rfl <;> simp only [p3] <;> omega
    rw [mm_mixed_13, if_neg (by omega)]
    simp only [bnd_eq, e1, e2, e3, e4, e5, e6, e7, e8]
    rw [ih (k + 1) n _ _ _ (by omega) (by omega) h3.1 h3.2 (by omega) (by omega) (by omega) (by omega)]
    simp only [madd, p3, hd]
    have e9 : x + p3 k * (d + 3 * madd j (a / 3) (b / 3)) = x + d * p3 k + 3 * p3 k * madd j (a / 3) (b / 3) := by
      rw [Int.mul_add, Int.mul_comm d (p3 k), Int.mul_comm 3 (p3 k), Int.mul_assoc (p3 k) 3, Int.add_assoc]
    rw [e9]
theorem mixed_eq {a b : Int} (ha : isM a) (hb : isM b) : mm_mixed a b = some (mx a b) := by
  have := mixed_lp 8 0 FU 0 a b (by omega) (by have := FU_ge; omega) (by omega) (by decide) ha.1 ha.2 hb.1 hb.2
  have e : p3 0 = 1 := rfl
  rw [e, Int.zero_add, Int.one_mul, ← mx_def] at this
  exact this
theorem unk_0 (k : Nat) : unk k 0 = 0 := by
  induction k with
  | zero => rfl
  | succ k ih => simp only [unk, Int.zero_ediv, ih]; omega
theorem units_lp (j : Nat) : ∀ (n : Nat) (x m : Int), j < n → 0 ≤ m → m < p3 j → m < 6561 → 0 ≤ x → x ≤ 1000 - 2 * j → mm_units_4 n x m = some (x + unk j m) := by
  induction j with
  | zero =>
    intro n x m hn h0 h1 _ _ _
    obtain ⟨n, rfl⟩ : ∃ m, n = m + 1 := ⟨n - 1, by omega⟩
    simp only [p3] at h1
    rw [mm_units_4, if_pos (by omega), mm_units_21]
    simp [unk]
  | succ j ih =>
    intro n x m hn h0 h1 h2 hx hx2
    obtain ⟨n, rfl⟩ : ∃ m, n = m + 1 := ⟨n - 1, by omega⟩
    simp only [p3] at h1
    rw [mm_units_4]
    by_cases hm : m ≤ 0
    · have : m = 0 := by omega
      subst this
      rw [if_pos (by omega), mm_units_21, unk_0, Int.add_zero]
    · rw [if_neg hm]
      have e1 : w32 (x + Int.tmod m 3) = x + m % 3 := by rw [tmE h0]; exact w32_eq (by omega) (by omega)
      have e2 : w32 (Int.tdiv m 3) = m / 3 := by rw [tdE h0]; exact w32_eq (by omega) (by omega)
      simp only [bnd_eq, e1, e2]
      rw [ih n _ _ (by omega) (by omega) (by omega) (by omega) (by omega) (by omega)]
      simp only [unk]
      rw [Int.add_assoc]
theorem units_eq {m : Int} (h : isM m) : mm_units m = some (un m) := by
  have := units_lp 8 FU 0 m (by have := FU_ge; omega) h.1 h.2 h.2 (by omega) (by omega)
  rw [Int.zero_add, ← un_def] at this
  exact this
theorem power_lp (j : Nat) : ∀ (k n : Nat) (x : Int), k + j ≤ 8 → j < n → x = ((k + j : Nat) : Int) → mm_power_4 n x (p3 k) k = some (p3 (k + j)) := by
  induction j with
  | zero =>
    intro k n x hk hn hx
    obtain ⟨n, rfl⟩ : ∃ m, n = m + 1 := ⟨n - 1, by omega⟩
    rw [mm_power_4, if_pos (by omega), mm_power_19]
    rfl
  | succ j ih =>
    intro k n x hk hn hx
    obtain ⟨n, rfl⟩ : ∃ m, n = m + 1 := ⟨n - 1, by omega⟩
    have hp : p3 k ≤ 2187 ∧ 0 < p3 k := by
      rcases (show k = 0 ∨ k = 1 ∨ k = 2 ∨ k = 3 ∨ k = 4 ∨ k = 5 ∨ k = 6 ∨ k = 7 by omega) with rfl | rfl | rfl | rfl | rfl | rfl | rfl | rfl <;> decide
    rw [mm_power_4, if_neg (by omega)]
    have e5 : w32 (p3 k * 3) = p3 (k + 1) := by rw [w32_eq (by omega) (by omega)]; simp only [p3]; omega
    have e8 : w32 ((k : Int) + 1) = ((k + 1 : Nat) : Int) := by rw [w32_eq (by omega) (by omega)]; omega
    simp only [bnd_eq, e5, e8]
    rw [ih (k + 1) n x (by omega) (by omega) (by omega)]
    congr 2
    omega
theorem power_eq {k : Nat} (h : k ≤ 8) : mm_power (k : Int) = some (p3 k) := by
  have := power_lp k 0 FU k (by omega) (by have := FU_ge; omega) (by simp)
  rw [Nat.zero_add] at this
  exact this
theorem in_eq (v a b : Int) : mm_in v a b = some (if a ≤ v ∧ v ≤ b then 1 else 0) := by
  rw [mm_in]
  by_cases h1 : v < a
  · rw [if_pos h1, mm_in_14, mm_in_15, if_pos (Or.inl rfl), if_neg (by omega)]
  · rw [if_neg h1]
    by_cases h2 : b < v
    · rw [if_pos h2, mm_in_14, mm_in_15, if_pos (Or.inl rfl), if_neg (by omega)]
    · rw [if_neg h2, mm_in_15, if_pos (Or.inr rfl), if_pos (by omega)]
theorem isMix_eq (v : Int) : mm_isMix v = some (if isM v then 1 else 0) := by
  rw [mm_isMix, in_eq, sb]
  by_cases h : isM v
  · have h1 : 0 ≤ v ∧ v ≤ 6560 := by unfold isM at h; omega
    rw [if_pos h, if_pos h1, if_pos (Or.inr rfl)]
  · have h1 : ¬ (0 ≤ v ∧ v ≤ 6560) := by unfold isM at h; omega
    rw [if_neg h, if_neg h1, if_pos (Or.inl rfl)]
theorem xisMix_eq (v : Int) : xx_isMix v = some (if isM v then 1 else 0) := by
  rw [xx_isMix]
  by_cases h1 : v < 0
  · rw [if_pos h1, xx_isMix_15, xx_isMix_16, if_pos (Or.inl rfl), if_neg (by unfold isM; omega)]
  · rw [if_neg h1]
    by_cases h2 : 6561 ≤ v
    · rw [if_pos h2, xx_isMix_15, xx_isMix_16, if_pos (Or.inl rfl), if_neg (by unfold isM; omega)]
    · rw [if_neg h2, xx_isMix_16, if_pos (Or.inr rfl), if_pos (by unfold isM; omega)]
