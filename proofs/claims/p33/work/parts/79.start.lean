/-! the start: what a new object holds -/
def a0 : Nat → Int := fun j => if j < 8 then (j : Int) + 1 else 0
theorem a0_hi {j : Nat} (h : 8 ≤ j) : a0 j = 0 := if_neg (by omega)
theorem a0_lo {j : Nat} (h : j < 8) : a0 j = (j : Int) + 1 := if_pos h
theorem nu0_z {g : Nat → Int} {k j : Nat} (h : k ≠ 2 ∧ k ≠ 14 ∧ k ≠ 21 ∧ k ≠ 30 ∧ k ≠ 37 ∧ k ≠ 44 ∧ k ≠ 51 ∧ k ≠ 58 ∧ k ≠ 63 ∧ k ≠ 66) : nu0 g k j = 0 := by
  unfold nu0
  rw [if_neg (by omega), if_neg (by omega), if_neg (by omega), if_neg (by omega)]
theorem RM_nu0 {g : Nat → Int} (h : ∀ k, inR (g k)) : RM (nu0 g) := fun k j => by
  unfold nu0
  split
  · exact h j
  · split
    · split
      · unfold inR; omega
      · decide
    · split
      · split <;> decide
      · split
        · split <;> decide
        · decide
theorem spn_00 (n : Nat) : ∀ x, spn (fun _ => 0) (-5) n x ↔ x = 0 := by
  induction n with
  | zero => intro x; exact Iff.rfl
  | succ n ih =>
    intro x
    rw [spn_ne _ _ _ (by omega)]
    exact (ext_cong ih 0 x).trans (ext_in sg_zero rfl x)
theorem Wf_0 : Wf a0 0 := by
  refine ⟨fun j hj => ?_, ?_, fun k hk => ?_, ?_, ?_, fun k hk => ?_, ?_, fun k hk => ?_, fun k hk => ?_⟩
  · rw [a0_lo hj]; omega
  · rw [a0_hi (by decide)]; decide
  · rw [a0_hi (by decide)] at hk; omega
  · rw [a0_hi (by decide)]; decide
  · rw [a0_hi (by decide)]; decide
  · rw [a0_hi (by decide)] at hk; omega
  · rw [a0_hi (by decide)]; decide
  · rw [a0_hi (by decide)] at hk; omega
  · rw [a0_hi (by omega)]; omega
theorem OD_0 : OD a0 0 := by
  refine ⟨fun i j _ hj => ?_, fun j hj => ?_, ?_, ?_⟩
  · rw [a0_hi (by decide)] at hj; omega
  · rw [a0_hi (by decide)] at hj; omega
  · rw [a0_hi (by decide)]; decide
  · rw [a0_hi (by decide)]; decide
theorem BL_0 : BL a0 := by
  refine ⟨?_, ?_⟩
  · rw [a0_hi (j := 8) (by decide), a0_hi (j := 52) (by decide), a0_hi (j := 53) (by decide), a0_hi (j := 54) (by decide), a0_hi (j := 55) (by decide)]
    show (0 : Int) = 0 + 0 + 0 + unF a0 0 0
    rw [unF]; decide
  · rw [a0_hi (by decide)]; decide
theorem ST_0 {g : Nat → Int} (h : JG g) : ST a0 none 0 (nu0 g) := by
  have e5 : nu0 g 5 = fun _ => 0 := by funext j; exact nu0_z (by decide)
  refine ⟨⟨Wf_0, ⟨?_, ?_, ?_, ?_, fun k hk => ?_, fun k hk => ?_, fun k hk => ?_, fun k hk => ?_, fun k hk => ?_⟩, ⟨fun _ => 0, 0, ?_, ⟨?_, by omega, fun j hj => by omega⟩, ?_, ?_, ?_, ⟨0, by omega, ?_, fun q hq => by omega, fun x => Iff.rfl⟩⟩, ?_, ?_⟩, trivial⟩
  · rw [nu0_z (by decide), a0_hi (by decide)]
  · rw [nu0_z (by decide), a0_hi (by decide)]
  · rw [nu0_z (by decide), a0_hi (by decide)]
  · rw [nu0_z (by decide), a0_hi (by decide)]
  · rw [a0_hi (by decide)] at hk; omega
  · rw [a0_hi (by decide)] at hk; omega
  · rw [a0_lo hk]
    show nu0 g 14 k = _
    unfold nu0
    rw [if_neg (by decide), if_pos (by decide), if_pos hk]
  · rw [a0_hi (by decide)] at hk; omega
  · rw [nu0_z (by decide), a0_hi (by omega)]
  · intro a b ha ha2 hb hb2
    show nu0 g 2 _ = _
    unfold nu0
    rw [if_pos rfl]
    exact h.2 a b ha ha2 hb hb2
  · exact nu0_z (by decide)
  · rw [nu0_z (by decide)]; rfl
  · intro k hk; exact Or.inl (nu0_z (by decide))
  · intro x; rw [e5]; exact spn_00 8 x
  · exact nu0_z (by decide)
  · rw [nu0_z (by decide)]; decide
  · rw [nu0_z (by decide)]; decide
/-! the tables and the constants at the law's entry -/
theorem SF_cong {ad ad' : Nat → Nat} {A : Nat → Prop} {U : State} {H : Heap} (e : ∀ k, 1000 ≤ k → ad' k = ad k) (h : SF ad A U H) : SF ad' A U H := by
  obtain ⟨h1, h2, h3⟩ := h
  exact ⟨by rw [e 1000 (by omega)]; exact h1, by rw [e 1000 (by omega)]; exact h2, h3⟩
theorem arr_known {s : State} {args : Array Value} {ty : FieldType} (h : (Cond.arrayClass ty).before args s = true) (hra : ∀ k, s.vm.findClass ("[" ++ ty.toString) = some k → va_RA s k ty) : ∃ cA, ArrOfT s cA ty ∧ va_RA s cA ty := by
  obtain ⟨cA, kA, comp, h1, h2, h3⟩ := Cond.arrayClass_spec h
  exact ⟨cA, fun n z => ⟨fun k h => (by cases h), kA, h2, comp, h3⟩, hra _ h1⟩
theorem arr_knownO {s : State} {args : Array Value} {C : String} (h : (Cond.arrayOver (.object C)).before args s = true) : ∃ cA, ArrOfT s cA (.object C) ∧ va_RA s cA (.object C) := by
  obtain ⟨comp, cA, kA, h1, h2, h3, h4, h5⟩ := Cond.arrayOver_spec h
  exact ⟨cA, fun n z => ⟨fun k h => (by cases h), kA, h3, comp, h4⟩, kA, comp, h3, h4, h1, h5⟩
