/-! the text: signs and numbers, read in both -/
section TXT
variable {tx : Nat → Int} {len : Nat}
def RT (tx : Nat → Int) (len : Nat) (μ : Mem) : Prop := μ 0 7 = (len : Int) ∧ len ≤ 60 ∧ ∀ i, i < len → μ 5 i = tx i ∧ 0 ≤ tx i ∧ tx i < 65536
def XT (tx : Nat → Int) (len : Nat) (ν : Mem) : Prop := ν 63 1 = (len : Int) ∧ len ≤ 60 ∧ ∀ i, i < len → ν 64 i = tx i ∧ 0 ≤ tx i ∧ tx i < 65536
/-- what reading leaves alone -/
def PF (μ μ' : Mem) : Prop := ∀ p q, (p ≠ 0 ∨ (q ≠ 14 ∧ q ≠ 15 ∧ q ≠ 16 ∧ q ≠ 17)) → μ' p q = μ p q
def XP (ν ν' : Mem) : Prop := ∀ p q, (p ≠ 63 ∨ (q ≠ 2 ∧ q ≠ 3 ∧ q ≠ 5 ∧ q ≠ 6)) → p ≠ 65 → ν' p q = ν p q
theorem PF_rf (μ : Mem) : PF μ μ := fun _ _ _ => rfl
theorem PF_tr {a b c : Mem} (h : PF a b) (g : PF b c) : PF a c := fun p q z => by rw [g p q z, h p q z]
theorem XP_rf (μ : Mem) : XP μ μ := fun _ _ _ _ => rfl
theorem XP_tr {a b c : Mem} (h : XP a b) (g : XP b c) : XP a c := fun p q z y => by rw [g p q z y, h p q z y]
theorem RT_fr {μ μ' : Mem} (h : RT tx len μ) (f : PF μ μ') : RT tx len μ' := ⟨by rw [f _ _ (by decide)]; exact h.1, h.2.1, fun i hi => by rw [f 5 i (Or.inl (by decide))]; exact h.2.2 i hi⟩
theorem XT_fr {ν ν' : Mem} (h : XT tx len ν) (f : XP ν ν') : XT tx len ν' := ⟨by rw [f _ _ (by decide) (by decide)]; exact h.1, h.2.1, fun i hi => by rw [f 64 i (Or.inl (by decide)) (by decide)]; exact h.2.2 i hi⟩
theorem PF_14 {μ μ' : Mem} (h : PF μ μ') (v : Int) : PF μ (mst μ' 0 14 v) := fun p q z => by
  rw [← h p q z]
  by_cases c : p = 0
  · subst c; exact mst_ix (by omega)
  · exact mst_pl c
theorem PF_15 {μ μ' : Mem} (h : PF μ μ') (v : Int) : PF μ (mst μ' 0 15 v) := fun p q z => by
  rw [← h p q z]
  by_cases c : p = 0
  · subst c; exact mst_ix (by omega)
  · exact mst_pl c
theorem XP_2 {ν ν' : Mem} (h : XP ν ν') (v : Int) : XP ν (mst ν' 63 2 v) := fun p q z y => by
  rw [← h p q z y]
  by_cases c : p = 63
  · subst c; exact mst_ix (by omega)
  · exact mst_pl c
/-- a sign of a kind stands at a place -/
abbrev nxt (tx : Nat → Int) (len : Nat) (lo hi : Int) (p : Nat) : Prop := p < len ∧ lo ≤ tx p ∧ tx p ≤ hi
/-- where the reference stands -/
def RS2 (μ : Mem) (ok : Bool) (p : Nat) : Prop := μ 0 14 = (p : Int) ∧ μ 0 15 = if ok then 0 else 1
theorem isNext_y {μ : Mem} {lo hi : Int} {p : Nat} (T : RT tx len μ) (R : RS2 μ true p) (h : nxt tx len lo hi p) : mm_isNext lo hi μ = some 1 := by
  have hl := T.2.1
  have h1 := h.1
  rw [mm_isNext, R.2, if_pos rfl, if_pos rfl, T.1, R.1, if_neg (by omega), aget_eq (by omega) (by omega), sb, Int.toNat_natCast, (T.2.2 p h.1).1, in_eq, sb, if_pos h.2, if_neg (by decide), mm_isNext_40, if_pos (Or.inr rfl)]
theorem isNext_n {μ : Mem} {lo hi : Int} {p : Nat} {ok : Bool} (T : RT tx len μ) (R : RS2 μ ok p) (h : ¬ (ok = true ∧ nxt tx len lo hi p)) : mm_isNext lo hi μ = some 0 := by
  have hl := T.2.1
  cases ok with
  | false =>
    have r2 : μ 0 15 = 1 := R.2
    rw [mm_isNext, r2, if_neg (by decide), mm_isNext_39, mm_isNext_40, if_pos (Or.inl rfl)]
  | true =>
    have r2 : μ 0 15 = 0 := R.2
    have hn : ¬ nxt tx len lo hi p := fun z => h ⟨rfl, z⟩
    rw [mm_isNext, r2, if_pos rfl, T.1, R.1]
    by_cases c : (len : Int) ≤ (p : Int)
    · rw [if_pos c, mm_isNext_39, mm_isNext_40, if_pos (Or.inl rfl)]
    · have hp : p < len := by omega
      rw [if_neg c, aget_eq (by omega) (by omega), sb, Int.toNat_natCast, (T.2.2 p hp).1, in_eq, sb, if_neg (fun z => hn ⟨hp, z⟩), if_pos rfl, mm_isNext_39, mm_isNext_40, if_pos (Or.inl rfl)]
theorem sign_y {μ : Mem} {lo hi : Int} {p : Nat} (T : RT tx len μ) (R : RS2 μ true p) (h : nxt tx len lo hi p) : ∃ μ', mm_sign lo hi μ = some (tx p, μ') ∧ RS2 μ' true (p + 1) ∧ PF μ μ' ∧ (∀ q, q ≠ 14 → q ≠ 15 → μ' 0 q = μ 0 q) := by
  have hl := T.2.1
  have h1 := h.1
  have r2 : μ 0 15 = 0 := R.2
  rw [mm_sign, T.1, R.1, if_neg (by omega), aget_eq (by omega) (by omega), sb, Int.toNat_natCast, (T.2.2 p h.1).1, mm_sign_24, r2, if_pos rfl, T.1, R.1, if_neg (by omega), in_eq, sb, if_pos h.2, if_neg (by decide), mm_sign_58, if_pos (Or.inl rfl), bnd_eq, mst_same, if_pos rfl, mm_sign_78, mst_ix (by decide), R.1, w32_eq (by omega) (by omega), bnd_eq]
  refine ⟨_, rfl, ⟨by rw [mst_same]; omega, by rw [mst_ix (by decide), mst_same]; rfl⟩, PF_14 (PF_15 (PF_rf μ) _) _, fun q a b => by rw [mst_ix a, mst_ix b]⟩
theorem sign_n {μ : Mem} {lo hi : Int} {p : Nat} {ok : Bool} (T : RT tx len μ) (R : RS2 μ ok p) (hp : p ≤ len) (h : ¬ (ok = true ∧ nxt tx len lo hi p)) : ∃ v μ', mm_sign lo hi μ = some (v, μ') ∧ RS2 μ' false p ∧ PF μ μ' ∧ (∀ q, q ≠ 14 → q ≠ 15 → μ' 0 q = μ 0 q) ∧ 0 ≤ v ∧ v < 65536 := by
  have hl := T.2.1
  have fin : ∀ v : Int, 0 ≤ v → v < 65536 → ∃ w μ', mm_sign_53 v μ = some (w, μ') ∧ RS2 μ' false p ∧ PF μ μ' ∧ (∀ q, q ≠ 14 → q ≠ 15 → μ' 0 q = μ 0 q) ∧ 0 ≤ w ∧ w < 65536 := fun v v0 v1 => by
    rw [mm_sign_53, mm_sign_58, if_pos (Or.inr rfl), bnd_eq, mst_same, if_neg (by decide), mm_sign_78, mst_ix (by decide), R.1, w32_eq (by omega) (by omega), bnd_eq]
    exact ⟨v, _, rfl, ⟨by rw [mst_same]; omega, by rw [mst_ix (by decide), mst_same]; rfl⟩, PF_14 (PF_15 (PF_rf μ) _) _, fun q a b => by rw [mst_ix a, mst_ix b], v0, v1⟩
  have h24 : ∀ v : Int, 0 ≤ v → v < 65536 → (∀ hpl : p < len, v = tx p) → ∃ w μ', mm_sign_24 lo hi v μ = some (w, μ') ∧ RS2 μ' false p ∧ PF μ μ' ∧ (∀ q, q ≠ 14 → q ≠ 15 → μ' 0 q = μ 0 q) ∧ 0 ≤ w ∧ w < 65536 := fun v v0 v1 hv => by
    cases ok with
    | false =>
      have r2 : μ 0 15 = 1 := R.2
      rw [mm_sign_24, r2, if_neg (by decide)]
      exact fin v v0 v1
    | true =>
      have r2 : μ 0 15 = 0 := R.2
      rw [mm_sign_24, r2, if_pos rfl, T.1, R.1]
      by_cases c : (len : Int) ≤ (p : Int)
      · rw [if_pos c]; exact fin v v0 v1
      · have hpl : p < len := by omega
        rw [if_neg c, in_eq, sb, hv hpl, if_neg (fun z => h ⟨rfl, hpl, z⟩), if_pos rfl]
        exact fin _ (T.2.2 p hpl).2.1 (T.2.2 p hpl).2.2
  rw [mm_sign, T.1, R.1]
  by_cases c : (len : Int) ≤ (p : Int)
  · rw [if_pos c]; exact h24 0 (by omega) (by omega) (fun hpl => by omega)
  · have hpl : p < len := by omega
    rw [if_neg c, aget_eq (by omega) (by omega), sb, Int.toNat_natCast, (T.2.2 p hpl).1]
    exact h24 _ (T.2.2 p hpl).2.1 (T.2.2 p hpl).2.2 (fun _ => rfl)
/-! the class's signs -/
theorem skip_y {ν : Mem} {c : Int} {p : Nat} (T : XT tx len ν) (R : ν 63 2 = (p : Int)) (h : nxt tx len c c p) : xw_skip c ν = some (1, mst ν 63 2 ((p + 1 : Nat) : Int)) := by
  have hl := T.2.1
  have h1 := h.1
  rw [xw_skip, T.1, R, if_neg (by omega), aget_eq (by omega) (by omega), sb, Int.toNat_natCast, (T.2.2 p h.1).1, if_pos (by have := h.2; omega), w32_eq (by omega) (by omega), bnd_eq, show (p : Int) + 1 = ((p + 1 : Nat) : Int) by omega]
theorem skip_n {ν : Mem} {c : Int} {p : Nat} (T : XT tx len ν) (R : ν 63 2 = (p : Int)) (h : ¬ nxt tx len c c p) : xw_skip c ν = some (0, ν) := by
  have hl := T.2.1
  rw [xw_skip, T.1, R]
  by_cases d : (len : Int) ≤ (p : Int)
  · rw [if_pos d, xw_skip_24]
  · have hpl : p < len := by omega
    rw [if_neg d, aget_eq (by omega) (by omega), sb, Int.toNat_natCast, (T.2.2 p hpl).1, if_neg (fun z => h ⟨hpl, by omega, by omega⟩), xw_skip_24]
theorem digit_y {ν : Mem} {p : Nat} (T : XT tx len ν) (R : ν 63 2 = (p : Int)) (h : nxt tx len 48 57 p) : xw_digitHere ν = some (tx p - 48) := by
  have hl := T.2.1
  have h1 := h.1
  have h2 := h.2
  rw [xw_digitHere, T.1, R, if_neg (by omega), aget_eq (by omega) (by omega), sb, Int.toNat_natCast, (T.2.2 p h.1).1, if_neg (by omega), sb, if_pos (by omega), sb, w32_eq (by omega) (by omega)]
theorem digit_n {ν : Mem} {p : Nat} (T : XT tx len ν) (R : ν 63 2 = (p : Int)) (h : ¬ nxt tx len 48 57 p) : xw_digitHere ν = some (-5) := by
  have hl := T.2.1
  rw [xw_digitHere, T.1, R]
  by_cases d : (len : Int) ≤ (p : Int)
  · rw [if_pos d, xw_digitHere_39]
  · have hpl : p < len := by omega
    rw [if_neg d, aget_eq (by omega) (by omega), sb, Int.toNat_natCast, (T.2.2 p hpl).1]
    by_cases a : tx p < 48
    · rw [if_pos a, xw_digitHere_39]
    · rw [if_neg a, sb, if_neg (fun z => h ⟨hpl, by omega, z⟩), xw_digitHere_39]
theorem spice_y {ν : Mem} {p : Nat} (T : XT tx len ν) (R : ν 63 2 = (p : Int)) (h : nxt tx len 97 104 p) : xw_spiceHere ν = some (tx p - 97) := by
  have hl := T.2.1
  have h1 := h.1
  have h2 := h.2
  rw [xw_spiceHere, T.1, R, if_neg (by omega), aget_eq (by omega) (by omega), sb, Int.toNat_natCast, (T.2.2 p h.1).1, if_neg (by omega), sb, if_pos (by omega), sb, w32_eq (by omega) (by omega)]
theorem spice_n {ν : Mem} {p : Nat} (T : XT tx len ν) (R : ν 63 2 = (p : Int)) (h : ¬ nxt tx len 97 104 p) : xw_spiceHere ν = some (-5) := by
  have hl := T.2.1
  rw [xw_spiceHere, T.1, R]
  by_cases d : (len : Int) ≤ (p : Int)
  · rw [if_pos d, xw_spiceHere_39]
  · have hpl : p < len := by omega
    rw [if_neg d, aget_eq (by omega) (by omega), sb, Int.toNat_natCast, (T.2.2 p hpl).1]
    by_cases a : tx p < 97
    · rw [if_pos a, xw_spiceHere_39]
    · rw [if_neg a, sb, if_neg (fun z => h ⟨hpl, by omega, z⟩), xw_spiceHere_39]
end TXT
