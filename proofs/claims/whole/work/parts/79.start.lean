/-! the start: what both objects hold when they are new -/
def mu0 : Mem := fun k j => if k = 1 then (if j < 8 then (j : Int) + 1 else 0) else 0
def adM (stat : Nat → Nat) (q : Nat) (u : Nat → Nat) : Nat → Nat := fun k => if 1000 ≤ k then stat k else if k = 0 then q else u (k - 1)
section MOD
variable {stat : Nat → Nat} {ca : Nat → ClassId} {q : Nat} {u : Nat → Nat}
theorem modE_0 : (wd shM (adM stat q u) ca mu0)[0]? = (modC ca q u)[0]? := (wd_get shM_0).trans rfl
theorem modE_1 : (wd shM (adM stat q u) ca mu0)[1]? = (modC ca q u)[1]? := (wd_get shM_1).trans rfl
theorem modE_2 : (wd shM (adM stat q u) ca mu0)[2]? = (modC ca q u)[2]? := (wd_get shM_2).trans rfl
theorem modE_3 : (wd shM (adM stat q u) ca mu0)[3]? = (modC ca q u)[3]? := (wd_get shM_3).trans rfl
theorem modE_4 : (wd shM (adM stat q u) ca mu0)[4]? = (modC ca q u)[4]? := (wd_get shM_4).trans rfl
theorem modE_5 : (wd shM (adM stat q u) ca mu0)[5]? = (modC ca q u)[5]? := (wd_get shM_5).trans rfl
theorem modE_6 : (wd shM (adM stat q u) ca mu0)[6]? = (modC ca q u)[6]? := (wd_get shM_6).trans rfl
theorem modE_7 : (wd shM (adM stat q u) ca mu0)[7]? = (modC ca q u)[7]? := (wd_get shM_7).trans rfl
theorem modE_8 : (wd shM (adM stat q u) ca mu0)[8]? = (modC ca q u)[8]? := (wd_get shM_8).trans rfl
theorem modE_9 : (wd shM (adM stat q u) ca mu0)[9]? = (modC ca q u)[9]? := (wd_get shM_9).trans rfl
theorem modE_10 : (wd shM (adM stat q u) ca mu0)[10]? = (modC ca q u)[10]? := (wd_get shM_10).trans rfl
theorem mod_eq : modC ca q u = wd shM (adM stat q u) ca mu0 := by
  apply List.ext_getElem?
  intro k
  match k with
  | 0 => exact modE_0.symm
  | 1 => exact modE_1.symm
  | 2 => exact modE_2.symm
  | 3 => exact modE_3.symm
  | 4 => exact modE_4.symm
  | 5 => exact modE_5.symm
  | 6 => exact modE_6.symm
  | 7 => exact modE_7.symm
  | 8 => exact modE_8.symm
  | 9 => exact modE_9.symm
  | 10 => exact modE_10.symm
  | k + 11 =>
    rw [List.getElem?_eq_none (by exact Nat.le_add_left 11 k), List.getElem?_eq_none (by rw [wd, List.length_mapIdx]; exact Nat.le_add_left 11 k)]
end MOD
theorem mu0_1 (j : Nat) : mu0 1 j = if j < 8 then (j : Int) + 1 else 0 := rfl
theorem mu0_z {k j : Nat} (h : k ≠ 1) : mu0 k j = 0 := if_neg h
theorem nu0_z {g : Nat → Int} {k j : Nat} (h : k ≠ 2 ∧ k ≠ 14 ∧ k ≠ 21 ∧ k ≠ 30 ∧ k ≠ 37 ∧ k ≠ 44 ∧ k ≠ 51 ∧ k ≠ 58 ∧ k ≠ 63 ∧ k ≠ 66) : nu0 g k j = 0 := by
  unfold nu0
  rw [if_neg (by omega), if_neg (by omega), if_neg (by omega), if_neg (by omega)]
theorem mu0_hi {j : Nat} (h : 8 ≤ j) : mu0 1 j = 0 := by rw [mu0_1, if_neg (by omega)]
theorem RM_mu0 : RM mu0 := fun k j => by
  unfold mu0 inR
  split
  · split <;> omega
  · omega
theorem RM_nu0 {g : Nat → Int} (h : ∀ k, inR (g k)) : RM (nu0 g) := fun k j => by
  unfold nu0
  split
  · exact h j
  · split
    · split
      · unfold inR; omega
      · decide
    · split
      · split <;> decide
      · split
        · split <;> decide
        · decide
theorem MI_0 : MI mu0 0 := by
  refine ⟨⟨fun j hj => ?_, ?_, fun k hk => ?_, ?_, ?_, fun k hk => ?_, ?_, fun k hk => ?_, fun k hk => ?_⟩, ?_, fun i hi => ?_, Or.inl (mu0_z (by decide)), ?_, fun i hi => ?_, Or.inl (mu0_z (by decide)), mu0_z (by decide)⟩
  · rw [mu0_1, if_pos hj]; omega
  · rw [mu0_hi (by decide)]; decide
  · rw [mu0_hi (by decide)] at hk; omega
  · rw [mu0_hi (by decide)]; decide
  · rw [mu0_hi (by decide)]; decide
  · rw [mu0_hi (by decide)] at hk; omega
  · rw [mu0_hi (by decide)]; decide
  · rw [mu0_hi (by decide)] at hk; omega
  · rw [mu0_hi (by omega)]; omega
  · rw [mu0_z (by decide)]; decide
  · rw [mu0_z (by decide)] at hi; omega
  · rw [mu0_z (by decide)]; decide
  · rw [mu0_z (by decide)] at hi; omega
theorem spn_00 (n : Nat) : ∀ x, spn (fun _ => 0) (-5) n x ↔ x = 0 := by
  induction n with
  | zero => intro x; exact Iff.rfl
  | succ n ih =>
    intro x
    rw [spn_ne _ _ _ (by omega)]
    exact (ext_cong ih 0 x).trans (ext_in sg_zero rfl x)
theorem XI_0 {g : Nat → Int} (h : JG g) : XI (nu0 g) mu0 := by
  have e5 : nu0 g 5 = fun _ => 0 := by funext j; exact nu0_z (by decide)
  refine ⟨⟨?_, ?_, ?_, ?_, fun k hk => ?_, fun k hk => ?_, fun k hk => ?_, fun k hk => ?_, fun k hk => ?_⟩, ⟨fun _ => 0, 0, ?_, ⟨?_, by omega, fun j hj => by omega⟩, ?_, ?_, ?_, ⟨0, by omega, ?_, fun q hq => by omega, fun x => Iff.rfl⟩⟩, ?_, ?_, fun i hi => ?_, ?_, fun hh => ?_, ?_, fun i hi => ?_⟩
  · rw [nu0_z (by decide), mu0_hi (by decide)]
  · rw [nu0_z (by decide), mu0_hi (by decide)]
  · rw [nu0_z (by decide), mu0_hi (by decide)]
  · rw [nu0_z (by decide), mu0_hi (by decide)]
  · rw [mu0_hi (by decide)] at hk; omega
  · rw [mu0_hi (by decide)] at hk; omega
  · rw [mu0_1, if_pos hk]
    show nu0 g 14 k = _
    unfold nu0
    rw [if_neg (by decide), if_pos (by decide), if_pos hk]
  · rw [mu0_hi (by decide)] at hk; omega
  · rw [nu0_z (by decide), mu0_hi (by omega)]
  · intro a b ha ha2 hb hb2
    show nu0 g 2 _ = _
    unfold nu0
    rw [if_pos rfl]
    exact h.2 a b ha ha2 hb hb2
  · exact nu0_z (by decide)
  · rw [nu0_z (by decide)]; rfl
  · intro k hk; exact Or.inl (nu0_z (by decide))
  · intro x; rw [e5]; exact spn_00 8 x
  · exact nu0_z (by decide)
  · rw [nu0_z (by decide)]; decide
  · rw [nu0_z (by decide), mu0_z (by decide)]
  · rw [mu0_z (by decide)] at hi; omega
  · rw [nu0_z (by decide), mu0_z (by decide)]
  · rw [mu0_z (by decide)] at hh; omega
  · show nu0 g 63 1 = _
    rw [mu0_z (by decide)]
    unfold nu0
    rw [if_neg (by decide), if_neg (by decide), if_pos rfl, if_neg (by decide)]
  · rw [mu0_z (by decide)] at hi; omega
/-! the tables and the constants at the law's entry -/
theorem SF_cong {ad ad' : Nat → Nat} {A : Nat → Prop} {U : State} {H : Heap} (e : ∀ k, 1000 ≤ k → ad' k = ad k) (h : SF ad A U H) : SF ad' A U H := by
  obtain ⟨h1, h2, h3, h4, h5⟩ := h
  have e1 : (fun i => ad' (1001 + i)) = fun i => ad (1001 + i) := by funext i; exact e _ (by omega)
  have e2 : (fun i => ad' (1101 + i)) = fun i => ad (1101 + i) := by funext i; exact e _ (by omega)
  refine ⟨by rw [e 1000 (by omega)]; exact h1, by rw [e 1000 (by omega)]; exact h2, by rw [e1, e2]; exact h3, fun i hi => by rw [e _ (by omega)]; exact h4 i hi, h5⟩
theorem arr_known {s : State} {args : Array Value} {ty : FieldType} (h : (Cond.arrayClass ty).before args s = true) (hra : ∀ k, s.vm.findClass ("[" ++ ty.toString) = some k → va_RA s k ty) : ∃ cA, ArrOfT s cA ty ∧ va_RA s cA ty := by
  obtain ⟨cA, kA, comp, h1, h2, h3⟩ := Cond.arrayClass_spec h
  exact ⟨cA, fun n z => ⟨fun k h => (by cases h), kA, h2, comp, h3⟩, hra _ h1⟩
theorem arr_knownO {s : State} {args : Array Value} {C : String} (h : (Cond.arrayOver (.object C)).before args s = true) : ∃ cA, ArrOfT s cA (.object C) ∧ va_RA s cA (.object C) := by
  obtain ⟨comp, cA, kA, h1, h2, h3, h4, h5⟩ := Cond.arrayOver_spec h
  exact ⟨cA, fun n z => ⟨fun k h => (by cases h), kA, h3, comp, h4⟩, kA, comp, h3, h4, h1, h5⟩
