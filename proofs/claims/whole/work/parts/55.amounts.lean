/-! amounts: one more of a spice -/
def hS (A : Nat → Int) : Nat → Int
  | 0 => 0
  | k + 1 => A 0 % 3 + 3 * hS (fun j => A (j + 1)) k
theorem hS_add (k : Nat) : ∀ A B : Nat → Int, madd k (hS A k) (hS B k) = hS (fun j => A j + B j) k := by
  induction k with
  | zero => intro A B; rfl
  | succ k ih =>
    intro A B
    have := ih (fun j => A (j + 1)) (fun j => B (j + 1))
    rw [hS, hS, hS, madd]
    rw [show (A 0 % 3 + 3 * hS (fun j => A (j + 1)) k) / 3 = hS (fun j => A (j + 1)) k by omega, show (B 0 % 3 + 3 * hS (fun j => B (j + 1)) k) / 3 = hS (fun j => B (j + 1)) k by omega, this]
    omega
theorem mS_hS (A : Nat → Int) : mS A 8 = hS A 8 := by
  simp only [mS, hS, p3, Nat.zero_add, Nat.reduceAdd]
  omega
def one (s : Nat) : Nat → Int := fun j => if j = s then 1 else 0
theorem one_p3 {s : Nat} (h : s < 8) : mS (one s) 8 = p3 s := by
  have : ∀ s : Fin 8, mS (one s.val) 8 = p3 s.val := by decide
  exact this ⟨s, h⟩
theorem mS_one {A : Nat → Int} {s : Nat} (h : s < 8) : mx (mS A 8) (p3 s) = mS (up A s (A s + 1)) 8 := by
  rw [← one_p3 h, mx_def, mS_hS, mS_hS, mS_hS, hS_add]
  congr 1
  funext j
  unfold one up
  by_cases c : j = s
  · rw [if_pos c, if_pos c, c]
  · rw [if_neg c, if_neg c, Int.add_zero]
theorem uS_up {A : Nat → Int} {s : Nat} {d : Int} (k : Nat) : uS (up A s (A s + d)) k = uS A k + if s < k then d else 0 := by
  induction k with
  | zero => rw [uS, uS, if_neg (by omega)]; rfl
  | succ k ih =>
    rw [uS, uS, ih]
    by_cases c : k = s
    · subst c; rw [up_same, if_neg (by omega), if_pos (by omega)]; omega
    · rw [up_ne c]
      by_cases e : s < k
      · rw [if_pos e, if_pos (by omega)]; omega
      · rw [if_neg e, if_neg (by omega)]; omega
theorem pS_up {p A : Nat → Int} {s : Nat} {d : Int} (k : Nat) : pS p (up A s (A s + d)) k = pS p A k + if s < k then d * p s else 0 := by
  induction k with
  | zero => rw [pS, pS, if_neg (by omega)]; rfl
  | succ k ih =>
    rw [pS, pS, ih]
    by_cases c : k = s
    · subst c; rw [up_same, if_neg (by omega), if_pos (by omega), Int.add_mul]; omega
    · rw [up_ne c]
      by_cases e : s < k
      · rw [if_pos e, if_pos (by omega)]; omega
      · rw [if_neg e, if_neg (by omega)]; omega
theorem pS_u {p A : Nat → Int} (hA : ∀ j, j < 8 → 0 ≤ A j) (hp : okP p) (k : Nat) (hk : k ≤ 8) : 0 ≤ pS p A k ∧ pS p A k ≤ 99 * uS A k := by
  induction k with
  | zero => rw [pS, uS]; omega
  | succ k ih =>
    have i := ih (by omega)
    have a := hA k (by omega)
    have b := hp k (by omega)
    have h1 : 0 ≤ A k * p k := Int.mul_nonneg a b.1
    have h2 : A k * p k ≤ A k * 99 := Int.mul_le_mul_of_nonneg_left b.2 a
    rw [pS, uS]
    omega
theorem uS_1 {A : Nat → Int} (hA : ∀ j, j < 8 → 0 ≤ A j) (k : Nat) (hk : k ≤ 8) : 0 ≤ uS A k ∧ ∀ j, j < k → A j ≤ uS A k := by
  induction k with
  | zero => rw [uS]; exact ⟨Int.le_refl 0, fun j hj => by omega⟩
  | succ k ih =>
    have i := ih (by omega)
    have a := hA k (by omega)
    rw [uS]
    refine ⟨by omega, fun j hj => ?_⟩
    by_cases c : j = k
    · subst c; omega
    · have := i.2 j (by omega); omega
/-- the reference adds one spice x4 times -/
theorem mx84_lp {K : Int → Int → Mem → Option (Int × Mem)} {s : Nat} {d x3 : Int} (hs : s < 8) (j : Nat) : ∀ (k : Int) (n : Nat) (A : Nat → Int) (μ : Mem), k + j = d → 0 ≤ k → d ≤ 9 → j < n → mm_mix_84 K n (mS A 8) x3 d (p3 s) k μ = mm_mix_104 K (mS (up A s (A s + j)) 8) x3 d μ := by
  induction j with
  | zero =>
    intro k n A μ hk h0 hd hn
    obtain ⟨n, rfl⟩ : ∃ m, n = m + 1 := ⟨n - 1, by omega⟩
    rw [mm_mix_84, if_pos (by omega)]
    congr 2
    funext q
    unfold up
    by_cases c : q = s
    · rw [if_pos c, c]; omega
    · rw [if_neg c]
  | succ j ih =>
    intro k n A μ hk h0 hd hn
    obtain ⟨n, rfl⟩ : ∃ m, n = m + 1 := ⟨n - 1, by omega⟩
    have hp1 := p3_pos s
    have hp2 := p3_le (k := s) hs
    have hm := mS_b A 8
    rw [mm_mix_84, if_neg (by omega), mixed_eq ⟨hm.1, hm.2⟩ ⟨by omega, by omega⟩, sb, mS_one hs, w32_eq (by omega) (by omega), bnd_eq, ih (k + 1) n (up A s (A s + 1)) μ (by omega) (by omega) hd (by omega)]
    congr 2
    funext q
    unfold up
    by_cases c : q = s
    · rw [if_pos c, if_pos c, if_pos rfl]; omega
    · rw [if_neg c, if_neg c, if_neg c]
