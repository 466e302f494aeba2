/-! a shop's state as a row of sixty numbers, as the reference holds it; what each order does to it -/
def up (a : Nat → Int) (i : Nat) (v : Int) : Nat → Int := fun j => if j = i then v else a j
theorem up_same (a : Nat → Int) (i : Nat) (v : Int) : up a i v i = v := if_pos rfl
theorem up_ne {a : Nat → Int} {i j : Nat} {v : Int} (h : j ≠ i) : up a i v j = a j := if_neg h
def pl (μ : Mem) (a : Nat → Int) : Mem := fun p q => if p = 1 then a q else μ p q
theorem pl_1 (μ : Mem) (a : Nat → Int) : pl μ a 1 = a := by funext q; simp [pl]
theorem pl_1' (μ : Mem) (a : Nat → Int) (j : Nat) : pl μ a 1 j = a j := by rw [pl_1]
theorem pl_ne {μ : Mem} {a : Nat → Int} {p : Nat} (h : p ≠ 1) (q : Nat) : pl μ a p q = μ p q := if_neg h
theorem pl_pl (μ : Mem) (a b : Nat → Int) : pl (pl μ a) b = pl μ b := by
  funext p q
  unfold pl
  split <;> rfl
theorem pl_self (μ : Mem) : pl μ (μ 1) = μ := by
  funext p q
  unfold pl
  split
  · rename_i h; rw [h]
  · rfl
theorem mst_pl1 (μ : Mem) (a : Nat → Int) (i : Nat) (v : Int) : mst (pl μ a) 1 i v = pl μ (up a i v) := by
  funext p q
  unfold mst pl up
  by_cases hp : p = 1 <;> by_cases hq : q = i <;> simp [hp, hq]
def Wf (a : Nat → Int) (t : Int) : Prop := okP a ∧ (0 ≤ a 8 ∧ a 8 ≤ 12) ∧ (∀ k : Nat, (k : Int) < a 8 → isM (a (10 + 2 * k)) ∧ 0 ≤ a (9 + 2 * k)) ∧ (0 ≤ a 33 ∧ a 33 ≤ 200) ∧ (0 ≤ a 34 ∧ a 34 ≤ 8) ∧ (∀ k : Nat, (k : Int) < a 34 → isM (a (35 + k))) ∧ (0 ≤ a 43 ∧ a 43 ≤ 8) ∧ (∀ k : Nat, (k : Int) < a 43 → isM (a (44 + k))) ∧ (∀ k : Nat, k < 8 → -t ≤ a (52 + k) ∧ a (52 + k) ≤ t)
theorem Wf_mono {a : Nat → Int} {t u : Int} (h : Wf a t) (htu : t ≤ u) : Wf a u := by
  obtain ⟨h1, h2, h3, h4, h5, h6, h7, h8, h9⟩ := h
  exact ⟨h1, h2, h3, h4, h5, h6, h7, h8, fun k hk => by have := h9 k hk; omega⟩
/-- the rank of a jar's number; -5 -/
def fndF (a : Nat → Int) (v : Int) : Nat → Nat → Int
  | 0, _ => -5
  | j + 1, k => if a (9 + 2 * k) = v then (k : Int) else fndF a v j (k + 1)
def fnd (a : Nat → Int) (v : Int) : Int := fndF a v (a 8).toNat 0
theorem fndF_b (a : Nat → Int) (v : Int) (j : Nat) : ∀ k, fndF a v j k = -5 ∨ ((k : Int) ≤ fndF a v j k ∧ fndF a v j k < ((k + j : Nat) : Int)) := by
  induction j with
  | zero => intro k; exact Or.inl rfl
  | succ j ih =>
    intro k
    unfold fndF
    split
    · right; omega
    · rcases ih (k + 1) with h | h
      · exact Or.inl h
      · right; omega
theorem fnd_b {a : Nat → Int} (v : Int) (h : 0 ≤ a 8) : fnd a v = -5 ∨ (0 ≤ fnd a v ∧ fnd a v < a 8) := by
  rcases fndF_b a v (a 8).toNat 0 with h1 | h1
  · exact Or.inl h1
  · right
    unfold fnd
    omega
def mixA (a : Nat → Int) (k : Int) : Int := a (10 + 2 * k.toNat)
/-- a jar goes -/
def drp (a : Nat → Int) (k : Int) : Nat → Int := fun j =>
  if j = 8 then a 8 - 1 else if (9 + 2 * k ≤ (j : Int) ∧ (j : Int) < 9 + 2 * (a 8 - 1)) then a (j + 2) else if ((j : Int) = 9 + 2 * (a 8 - 1) ∨ (j : Int) = 10 + 2 * (a 8 - 1)) then 0 else a j
noncomputable def sComes (a : Nat → Int) (mix u p : Int) : Int × (Nat → Int) :=
  if a 8 = 12 ∨ a 33 = 200 then (-3, a) else
  (a 33, up (up (up (up (up (up (up a (9 + 2 * (a 8).toNat) (a 33)) (10 + 2 * (a 8).toNat) mix) 8 (a 8 + 1)) 33 (a 33 + 1)) 52 (a 52 + u)) 56 (a 56 + p)) 53 (a 53 + (u - un mix)))
noncomputable def sPours (a : Nat → Int) (x y : Int) : Int × (Nat → Int) :=
  if fnd a x = -5 ∨ fnd a y = -5 then (-1, a) else if fnd a x = fnd a y then (-2, a) else if mixA a (fnd a x) = 0 then (-5, a) else
  (un (mixA a (fnd a x)) + un (mixA a (fnd a y)) - un (mx (mixA a (fnd a x)) (mixA a (fnd a y))),
   up (up (up a (10 + 2 * (fnd a x).toNat) 0) (10 + 2 * (fnd a y).toNat) (mx (mixA a (fnd a x)) (mixA a (fnd a y)))) 53 (a 53 + (un (mixA a (fnd a x)) + un (mixA a (fnd a y)) - un (mx (mixA a (fnd a x)) (mixA a (fnd a y))))))
noncomputable def sMore (a : Nat → Int) (x : Int) : Int × (Nat → Int) :=
  if fnd a x = -5 then (-1, a) else if mixA a (fnd a x) = 0 then (-5, a) else
  (mx (mixA a (fnd a x)) (mixA a (fnd a x)), up (up (up (up a (10 + 2 * (fnd a x).toNat) (mx (mixA a (fnd a x)) (mixA a (fnd a x)))) 52 (a 52 + un (mixA a (fnd a x)))) 56 (a 56 + prc a (mixA a (fnd a x)))) 53 (a 53 + (2 * un (mixA a (fnd a x)) - un (mx (mixA a (fnd a x)) (mixA a (fnd a x))))))
def sRule (a : Nat → Int) (mix : Int) : Int × (Nat → Int) := if a 34 = 8 then (-3, a) else (0, up (up a (35 + (a 34).toNat) mix) 34 (a 34 + 1))
/-- a rule goes -/
def drr (a : Nat → Int) (k : Int) : Nat → Int := fun j =>
  if j = 34 then a 34 - 1 else if (35 + k ≤ (j : Int) ∧ (j : Int) < 35 + (a 34 - 1)) then a (j + 1) else if (j : Int) = 35 + (a 34 - 1) then 0 else a j
def sDrop (a : Nat → Int) (x : Int) : Int × (Nat → Int) := if 0 ≤ x ∧ x < a 34 then (0, drr a x) else (-1, a)
def sWant (a : Nat → Int) (mix : Int) : Int × (Nat → Int) := if a 43 = 8 then (-3, a) else (a 43 + 1, up (up a (44 + (a 43).toNat) mix) 43 (a 43 + 1))
/-! the reference does them -/
theorem mmixIn_eq (μ : Mem) {k : Int} (h0 : 0 ≤ k) (h1 : k < 12) : mm_mixIn k μ = some (mixA (μ 1) k) := by
  have e : w32 (w32 (9 + w32 (2 * k)) + 1) = 10 + 2 * k := by
    rw [w32_eq (x := 2 * k) (by omega) (by omega), w32_eq (x := 9 + 2 * k) (by omega) (by omega), w32_eq (by omega) (by omega)]; omega
  rw [mm_mixIn, e, aget_eq (by omega) (by omega), sb, show (10 + 2 * k).toNat = 10 + 2 * k.toNat by omega]
  rfl
theorem mnumberOf_eq (μ : Mem) {k : Int} (h0 : 0 ≤ k) (h1 : k < 12) : mm_numberOf k μ = some (μ 1 (9 + 2 * k.toNat)) := by
  have e : w32 (9 + w32 (2 * k)) = 9 + 2 * k := by
    rw [w32_eq (x := 2 * k) (by omega) (by omega), w32_eq (by omega) (by omega)]
  rw [mm_numberOf, e, aget_eq (by omega) (by omega), sb, show (9 + 2 * k).toNat = 9 + 2 * k.toNat by omega]
theorem mfind_lp {μ : Mem} {v : Int} (h8 : 0 ≤ μ 1 8 ∧ μ 1 8 ≤ 12) (j : Nat) : ∀ (k n : Nat), (k : Int) + j = μ 1 8 → j < n → mm_find_2 n v k μ = some (fndF (μ 1) v j k) := by
  induction j with
  | zero =>
    intro k n hk hn
    obtain ⟨n, rfl⟩ : ∃ m, n = m + 1 := ⟨n - 1, by omega⟩
    rw [mm_find_2, if_pos (by omega), mm_find_30]
    rfl
  | succ j ih =>
    intro k n hk hn
    obtain ⟨n, rfl⟩ : ∃ m, n = m + 1 := ⟨n - 1, by omega⟩
    have e1 : w32 ((k : Int) + 1) = ((k + 1 : Nat) : Int) := by rw [w32_eq (by omega) (by omega)]; omega
    rw [mm_find_2, if_neg (by omega), mnumberOf_eq μ (by omega) (by omega), sb, Int.toNat_natCast, fndF]
    by_cases h : μ 1 (9 + 2 * k) = v
    · rw [if_pos h, if_pos h, mm_find_22]
    · rw [if_neg h, if_neg h, bnd_eq, e1]
      exact ih (k + 1) n (by omega) (by omega)
theorem mfind_eq {μ : Mem} (v : Int) (h8 : 0 ≤ μ 1 8 ∧ μ 1 8 ≤ 12) : mm_find v μ = some (fnd (μ 1) v) := mfind_lp h8 (μ 1 8).toNat 0 FU (by omega) (by have := FU_ge; omega)
theorem mdrop_lp {μ : Mem} {a : Nat → Int} {k m : Int} (hk : 0 ≤ k ∧ k ≤ m) (hm : m ≤ 11) (j : Nat) : ∀ (n : Nat) (i : Int) (b : Nat → Int), i + j = 9 + 2 * m → 9 + 2 * k ≤ i → j < n → b 8 = m → (∀ q : Nat, b q = if q = 8 then m else if 9 + 2 * k ≤ (q : Int) ∧ (q : Int) < i then a (q + 2) else a q) →
    mm_dropJar_18 n i (pl μ b) = some (pl μ (fun q => if q = 8 then m else if 9 + 2 * k ≤ (q : Int) ∧ (q : Int) < 9 + 2 * m then a (q + 2) else if ((q : Int) = 9 + 2 * m ∨ (q : Int) = 10 + 2 * m) then 0 else a q)) := by
  induction j with
  | zero =>
    intro n i b hi hki hn h8 hb
    obtain ⟨n, rfl⟩ : ∃ m, n = m + 1 := ⟨n - 1, by omega⟩
    have e2 : w32 (2 * m) = 2 * m := w32_eq (by omega) (by omega)
    have e1 : w32 (9 + 2 * m) = 9 + 2 * m := w32_eq (by omega) (by omega)
    have e3 : w32 (9 + 2 * m + 1) = 10 + 2 * m := by rw [w32_eq (by omega) (by omega)]; omega
    have hu : up b (9 + 2 * m).toNat 0 8 = m := by rw [up_ne (by omega)]; exact h8
    rw [mm_dropJar_18, pl_1', h8, e2, e1, if_pos (by omega), mm_dropJar_54, pl_1', h8, e2, e1, aput_eq (by omega) (by omega), sb, mst_pl1, pl_1', hu, e2, e1, e3, aput_eq (by omega) (by omega), sb, mst_pl1]
    congr 2
    funext q
    unfold up
    by_cases c1 : q = (10 + 2 * m).toNat
    · rw [if_pos c1, if_neg (by omega), if_neg (by omega), if_pos (by omega)]
    · rw [if_neg c1]
      by_cases c2 : q = (9 + 2 * m).toNat
      · rw [if_pos c2, if_neg (by omega), if_neg (by omega), if_pos (by omega)]
      · rw [if_neg c2, hb q]
        by_cases c3 : q = 8
        · rw [if_pos c3, if_pos c3]
        · rw [if_neg c3, if_neg c3]
          by_cases c4 : 9 + 2 * k ≤ (q : Int) ∧ (q : Int) < i
          · rw [if_pos c4, if_pos (by omega)]
          · rw [if_neg c4, if_neg (by omega), if_neg (by omega)]
  | succ j ih =>
    intro n i b hi hki hn h8 hb
    obtain ⟨n, rfl⟩ : ∃ m, n = m + 1 := ⟨n - 1, by omega⟩
    have e2 : w32 (2 * m) = 2 * m := w32_eq (by omega) (by omega)
    have e1 : w32 (9 + 2 * m) = 9 + 2 * m := w32_eq (by omega) (by omega)
    have e3 : w32 (i + 2) = i + 2 := w32_eq (by omega) (by omega)
    have e4 : w32 (i + 1) = i + 1 := w32_eq (by omega) (by omega)
    have hr : b (i + 2).toNat = a (i.toNat + 2) := by
      rw [hb, if_neg (by omega), if_neg (by omega), show (i + 2).toNat = i.toNat + 2 by omega]
    rw [mm_dropJar_18, pl_1', h8, e2, e1, if_neg (by omega), e3, aget_eq (by omega) (by omega), sb, pl_1', hr, aput_eq (by omega) (by omega), sb, mst_pl1, bnd_eq, e4]
    refine ih n (i + 1) _ (by omega) (by omega) (by omega) (by rw [up_ne (by omega)]; exact h8) (fun q => ?_)
    unfold up
    by_cases c1 : q = i.toNat
    · subst c1
      rw [if_pos rfl, if_neg (by omega), if_pos (by omega)]
    · rw [if_neg c1, hb q]
      by_cases c3 : q = 8
      · rw [if_pos c3, if_pos c3]
      · rw [if_neg c3, if_neg c3]
        by_cases c4 : 9 + 2 * k ≤ (q : Int) ∧ (q : Int) < i
        · rw [if_pos c4, if_pos (by omega)]
        · rw [if_neg c4, if_neg (by omega)]
theorem mdropJar_eq {μ : Mem} {k : Int} (h8 : μ 1 8 ≤ 12) (hk : 0 ≤ k ∧ k < μ 1 8) : mm_dropJar k μ = some (pl μ (drp (μ 1) k)) := by
  have e0 : w32 (μ 1 8 - 1) = μ 1 8 - 1 := w32_eq (by omega) (by omega)
  have e1 : w32 (9 + w32 (2 * k)) = 9 + 2 * k := by rw [w32_eq (x := 2 * k) (by omega) (by omega), w32_eq (by omega) (by omega)]
  have e2 : mst μ 1 8 (μ 1 8 - 1) = pl μ (up (μ 1) 8 (μ 1 8 - 1)) := by rw [← mst_pl1, pl_self]
  rw [mm_dropJar, bnd_eq, bnd_eq, e0, e1, e2]
  have := mdrop_lp (μ := μ) (a := μ 1) (k := k) (m := μ 1 8 - 1) ⟨hk.1, by omega⟩ (by omega) (2 * (μ 1 8 - 1 - k)).toNat FU (9 + 2 * k) (up (μ 1) 8 (μ 1 8 - 1)) (by omega) (by omega) (by have := FU_ge; omega) (up_same _ _ _) (fun q => by
    unfold up
    by_cases c : q = 8
    · rw [if_pos c, if_pos c]
    · rw [if_neg c, if_neg c, if_neg (by omega)])
  rw [this]
  rfl
