/-! a shop's state as a row of sixty numbers, as the reference holds it; what each order does to it -/
def up (a : Nat → Int) (i : Nat) (v : Int) : Nat → Int := fun j => if j = i then v else a j
theorem up_same (a : Nat → Int) (i : Nat) (v : Int) : up a i v i = v := if_pos rfl
theorem up_ne {a : Nat → Int} {i j : Nat} {v : Int} (h : j ≠ i) : up a i v j = a j := if_neg h
def pl (μ : Mem) (a : Nat → Int) : Mem := fun p q => if p = 1 then a q else μ p q
theorem pl_1 (μ : Mem) (a : Nat → Int) : pl μ a 1 = a := by funext q; simp [pl]
theorem pl_1' (μ : Mem) (a : Nat → Int) (j : Nat) : pl μ a 1 j = a j := by rw [pl_1]
theorem pl_ne {μ : Mem} {a : Nat → Int} {p : Nat} (h : p ≠ 1) (q : Nat) : pl μ a p q = μ p q := if_neg h
theorem pl_pl (μ : Mem) (a b : Nat → Int) : pl (pl μ a) b = pl μ b := by
  funext p q
  unfold pl
  split <;> rfl
theorem pl_self (μ : Mem) : pl μ (μ 1) = μ := by
  funext p q
  unfold pl
  split
  · rename_i h; rw [h]
  · rfl
theorem mst_pl1 (μ : Mem) (a : Nat → Int) (i : Nat) (v : Int) : mst (pl μ a) 1 i v = pl μ (up a i v) := by
  funext p q
  unfold mst pl up
  by_cases hp : p = 1 <;> by_cases hq : q = i <;> simp [hp, hq]
def Wf (a : Nat → Int) (t : Int) : Prop := okP a ∧ (0 ≤ a 8 ∧ a 8 ≤ 12) ∧ (∀ k : Nat, (k : Int) < a 8 → isM (a (10 + 2 * k)) ∧ 0 ≤ a (9 + 2 * k)) ∧ (0 ≤ a 33 ∧ a 33 ≤ 200) ∧ (0 ≤ a 34 ∧ a 34 ≤ 8) ∧ (∀ k : Nat, (k : Int) < a 34 → isM (a (35 + k))) ∧ (0 ≤ a 43 ∧ a 43 ≤ 8) ∧ (∀ k : Nat, (k : Int) < a 43 → isM (a (44 + k))) ∧ (∀ k : Nat, k < 8 → -t ≤ a (52 + k) ∧ a (52 + k) ≤ t)
theorem Wf_mono {a : Nat → Int} {t u : Int} (h : Wf a t) (htu : t ≤ u) : Wf a u := by
  obtain ⟨h1, h2, h3, h4, h5, h6, h7, h8, h9⟩ := h
  exact ⟨h1, h2, h3, h4, h5, h6, h7, h8, fun k hk => by have := h9 k hk; omega⟩
/-- the rank of a jar's number; -5 -/
def fndF (a : Nat → Int) (v : Int) : Nat → Nat → Int
  | 0, _ => -5
  | j + 1, k => if a (9 + 2 * k) = v then (k : Int) else fndF a v j (k + 1)
def fnd (a : Nat → Int) (v : Int) : Int := fndF a v (a 8).toNat 0
theorem fndF_b (a : Nat → Int) (v : Int) (j : Nat) : ∀ k, fndF a v j k = -5 ∨ ((k : Int) ≤ fndF a v j k ∧ fndF a v j k < ((k + j : Nat) : Int)) := by
  induction j with
  | zero => intro k; exact Or.inl rfl
  | succ j ih =>
    intro k
    unfold fndF
    split
    · right; omega
    · rcases ih (k + 1) with h | h
      · exact Or.inl h
      · right; omega
theorem fnd_b {a : Nat → Int} (v : Int) (h : 0 ≤ a 8) : fnd a v = -5 ∨ (0 ≤ fnd a v ∧ fnd a v < a 8) := by
  rcases fndF_b a v (a 8).toNat 0 with h1 | h1
  · exact Or.inl h1
  · right
    unfold fnd
    omega
def mixA (a : Nat → Int) (k : Int) : Int := a (10 + 2 * k.toNat)
/-- a jar goes -/
def drp (a : Nat → Int) (k : Int) : Nat → Int := fun j =>
  if j = 8 then a 8 - 1 else if (9 + 2 * k ≤ (j : Int) ∧ (j : Int) < 9 + 2 * (a 8 - 1)) then a (j + 2) else if ((j : Int) = 9 + 2 * (a 8 - 1) ∨ (j : Int) = 10 + 2 * (a 8 - 1)) then 0 else a j
noncomputable def sComes (a : Nat → Int) (mix u p : Int) : Int × (Nat → Int) :=
  if a 8 = 12 ∨ a 33 = 200 then (-3, a) else
  (a 33, up (up (up (up (up (up (up a (9 + 2 * (a 8).toNat) (a 33)) (10 + 2 * (a 8).toNat) mix) 8 (a 8 + 1)) 33 (a 33 + 1)) 52 (a 52 + u)) 56 (a 56 + p)) 53 (a 53 + (u - un mix)))
noncomputable def sPours (a : Nat → Int) (x y : Int) : Int × (Nat → Int) :=
  if fnd a x = -5 ∨ fnd a y = -5 then (-1, a) else if fnd a x = fnd a y then (-2, a) else if mixA a (fnd a x) = 0 then (-5, a) else
  (un (mixA a (fnd a x)) + un (mixA a (fnd a y)) - un (mx (mixA a (fnd a x)) (mixA a (fnd a y))),
   up (up (up a (10 + 2 * (fnd a x).toNat) 0) (10 + 2 * (fnd a y).toNat) (mx (mixA a (fnd a x)) (mixA a (fnd a y)))) 53 (a 53 + (un (mixA a (fnd a x)) + un (mixA a (fnd a y)) - un (mx (mixA a (fnd a x)) (mixA a (fnd a y))))))
noncomputable def sMore (a : Nat → Int) (x : Int) : Int × (Nat → Int) :=
  if fnd a x = -5 then (-1, a) else if mixA a (fnd a x) = 0 then (-5, a) else
  (mx (mixA a (fnd a x)) (mixA a (fnd a x)), up (up (up (up a (10 + 2 * (fnd a x).toNat) (mx (mixA a (fnd a x)) (mixA a (fnd a x)))) 52 (a 52 + un (mixA a (fnd a x)))) 56 (a 56 + prc a (mixA a (fnd a x)))) 53 (a 53 + (2 * un (mixA a (fnd a x)) - un (mx (mixA a (fnd a x)) (mixA a (fnd a x))))))
def sRule (a : Nat → Int) (mix : Int) : Int × (Nat → Int) := if a 34 = 8 then (-3, a) else (0, up (up a (35 + (a 34).toNat) mix) 34 (a 34 + 1))
/-- a rule goes -/
def drr (a : Nat → Int) (k : Int) : Nat → Int := fun j =>
  if j = 34 then a 34 - 1 else if (35 + k ≤ (j : Int) ∧ (j : Int) < 35 + (a 34 - 1)) then a (j + 1) else if (j : Int) = 35 + (a 34 - 1) then 0 else a j
def sDrop (a : Nat → Int) (x : Int) : Int × (Nat → Int) := if 0 ≤ x ∧ x < a 34 then (0, drr a x) else (-1, a)
def sWant (a : Nat → Int) (mix : Int) : Int × (Nat → Int) := if a 43 = 8 then (-3, a) else (a 43 + 1, up (up a (44 + (a 43).toNat) mix) 43 (a 43 + 1))
/-! the reference does them -/