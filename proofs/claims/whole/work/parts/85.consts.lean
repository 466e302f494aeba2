/-! the constants at the law's entry, and the classes of rows -/
section ST
variable {s : State} {args : Array Value} {A : Nat → Prop}
theorem st_pow (hs : ∀ c ∈ flatC (Jvm.Cond.and given_1 narrow_1), c.before args s = true) (ht : ∀ w ∈ lw_tbl, w.before args s = true) (hA : ∀ a : Nat, a < s.heap.size → ¬ A a) : ∃ t : Nat, va_Z "SpiceThrees" "POWERS" "[I" (.ref t) A s s.heap ∧ va_T .int t 9 (fun j => .int (Int32.ofInt (pow3 j))) A s s.heap := by
  have hel : ∀ j : Nat, j < 9 → (Term.elem (.static "SpiceThrees" "POWERS" "[I") (.int (Int32.ofNat j))).eval args s none [] s = some ((fun j => Value.int (Int32.ofInt (pow3 j))) j) := by
    intro j hj
    rcases (show j = 0 ∨ j = 1 ∨ j = 2 ∨ j = 3 ∨ j = 4 ∨ j = 5 ∨ j = 6 ∨ j = 7 ∨ j = 8 by omega) with rfl | rfl | rfl | rfl | rfl | rfl | rfl | rfl | rfl
    · exact va_eqt (hs (Cond.eq (.elem (.static "SpiceThrees" "POWERS" "[I") (.int 0)) (.int 1)) (by decide +kernel))
    · exact va_eqt (hs (Cond.eq (.elem (.static "SpiceThrees" "POWERS" "[I") (.int 1)) (.int 3)) (by decide +kernel))
    · exact va_eqt (hs (Cond.eq (.elem (.static "SpiceThrees" "POWERS" "[I") (.int 2)) (.int 9)) (by decide +kernel))
    · exact va_eqt (hs (Cond.eq (.elem (.static "SpiceThrees" "POWERS" "[I") (.int 3)) (.int 27)) (by decide +kernel))
    · exact va_eqt (hs (Cond.eq (.elem (.static "SpiceThrees" "POWERS" "[I") (.int 4)) (.int 81)) (by decide +kernel))
    · exact va_eqt (hs (Cond.eq (.elem (.static "SpiceThrees" "POWERS" "[I") (.int 5)) (.int 243)) (by decide +kernel))
    · exact va_eqt (hs (Cond.eq (.elem (.static "SpiceThrees" "POWERS" "[I") (.int 6)) (.int 729)) (by decide +kernel))
    · exact va_eqt (hs (Cond.eq (.elem (.static "SpiceThrees" "POWERS" "[I") (.int 7)) (.int 2187)) (by decide +kernel))
    · exact va_eqt (hs (Cond.eq (.elem (.static "SpiceThrees" "POWERS" "[I") (.int 8)) (.int 6561)) (by decide +kernel))
  obtain ⟨t, h1, h2⟩ := va_Tof (f := fun j => .int (Int32.ofInt (pow3 j))) (A := A) (tm := .static "SpiceThrees" "POWERS" "[I") (ty := .int) (N := 9) (by decide) (hs (Cond.arrayOf (.static "SpiceThrees" "POWERS" "[I") .int) (by decide +kernel)) (va_eqt (hs (Cond.eq (.length (.static "SpiceThrees" "POWERS" "[I")) (.int 9)) (by decide +kernel))) hel hA
  exact ⟨t, va_Zref (ht _ (List.mem_of_getElem? (i := 337) (by decide +kernel))) (ht _ (List.mem_of_getElem? (i := 62) (by decide +kernel))) h1 hA, h2⟩
theorem st_str (hs : ∀ c ∈ flatC (Jvm.Cond.and given_1 narrow_1), c.before args s = true) (hA : ∀ a : Nat, a < s.heap.size → ¬ A a) : ∃ adK adV : Nat → Nat, vk_S 7 lenS bytS adK adV A s s.heap ∧ ∀ i : Nat, i < 7 → (Term.string "SpiceThrees$Text" (78 + 2 * i)).eval args s none [] s = some (.ref (adK i)) := by
  refine vk_Sof (tm := fun i => .string "SpiceThrees$Text" (78 + 2 * i)) (fun i hi => ?_) (fun i hi => ?_) (fun i hi => ?_) (fun i hi => ?_) (fun i hi => ?_) (fun i hi j hj => ?_) (fun i j hi hj hij => ?_) hA
  · rcases (show i = 0 ∨ i = 1 ∨ i = 2 ∨ i = 3 ∨ i = 4 ∨ i = 5 ∨ i = 6 by omega) with rfl | rfl | rfl | rfl | rfl | rfl | rfl <;> decide
  · rcases (show i = 0 ∨ i = 1 ∨ i = 2 ∨ i = 3 ∨ i = 4 ∨ i = 5 ∨ i = 6 by omega) with rfl | rfl | rfl | rfl | rfl | rfl | rfl
    · exact hs (Cond.exactly (.string "SpiceThrees$Text" 78) "java/lang/String") (by decide +kernel)
    · exact hs (Cond.exactly (.string "SpiceThrees$Text" 80) "java/lang/String") (by decide +kernel)
    · exact hs (Cond.exactly (.string "SpiceThrees$Text" 82) "java/lang/String") (by decide +kernel)
    · exact hs (Cond.exactly (.string "SpiceThrees$Text" 84) "java/lang/String") (by decide +kernel)
    · exact hs (Cond.exactly (.string "SpiceThrees$Text" 86) "java/lang/String") (by decide +kernel)
    · exact hs (Cond.exactly (.string "SpiceThrees$Text" 88) "java/lang/String") (by decide +kernel)
    · exact hs (Cond.exactly (.string "SpiceThrees$Text" 90) "java/lang/String") (by decide +kernel)
  · rcases (show i = 0 ∨ i = 1 ∨ i = 2 ∨ i = 3 ∨ i = 4 ∨ i = 5 ∨ i = 6 by omega) with rfl | rfl | rfl | rfl | rfl | rfl | rfl
    · exact hs (Cond.eq (.field (.string "SpiceThrees$Text" 78) "java/lang/String" "coder" "B") (.int 0)) (by decide +kernel)
    · exact hs (Cond.eq (.field (.string "SpiceThrees$Text" 80) "java/lang/String" "coder" "B") (.int 0)) (by decide +kernel)
    · exact hs (Cond.eq (.field (.string "SpiceThrees$Text" 82) "java/lang/String" "coder" "B") (.int 0)) (by decide +kernel)
    · exact hs (Cond.eq (.field (.string "SpiceThrees$Text" 84) "java/lang/String" "coder" "B") (.int 0)) (by decide +kernel)
    · exact hs (Cond.eq (.field (.string "SpiceThrees$Text" 86) "java/lang/String" "coder" "B") (.int 0)) (by decide +kernel)
    · exact hs (Cond.eq (.field (.string "SpiceThrees$Text" 88) "java/lang/String" "coder" "B") (.int 0)) (by decide +kernel)
    · exact hs (Cond.eq (.field (.string "SpiceThrees$Text" 90) "java/lang/String" "coder" "B") (.int 0)) (by decide +kernel)
  · rcases (show i = 0 ∨ i = 1 ∨ i = 2 ∨ i = 3 ∨ i = 4 ∨ i = 5 ∨ i = 6 by omega) with rfl | rfl | rfl | rfl | rfl | rfl | rfl
    · exact hs (Cond.arrayOf (.field (.string "SpiceThrees$Text" 78) "java/lang/String" "value" "[B") .byte) (by decide +kernel)
    · exact hs (Cond.arrayOf (.field (.string "SpiceThrees$Text" 80) "java/lang/String" "value" "[B") .byte) (by decide +kernel)
    · exact hs (Cond.arrayOf (.field (.string "SpiceThrees$Text" 82) "java/lang/String" "value" "[B") .byte) (by decide +kernel)
    · exact hs (Cond.arrayOf (.field (.string "SpiceThrees$Text" 84) "java/lang/String" "value" "[B") .byte) (by decide +kernel)
    · exact hs (Cond.arrayOf (.field (.string "SpiceThrees$Text" 86) "java/lang/String" "value" "[B") .byte) (by decide +kernel)
    · exact hs (Cond.arrayOf (.field (.string "SpiceThrees$Text" 88) "java/lang/String" "value" "[B") .byte) (by decide +kernel)
    · exact hs (Cond.arrayOf (.field (.string "SpiceThrees$Text" 90) "java/lang/String" "value" "[B") .byte) (by decide +kernel)
  · rcases (show i = 0 ∨ i = 1 ∨ i = 2 ∨ i = 3 ∨ i = 4 ∨ i = 5 ∨ i = 6 by omega) with rfl | rfl | rfl | rfl | rfl | rfl | rfl
    · exact hs (Cond.eq (.length (.field (.string "SpiceThrees$Text" 78) "java/lang/String" "value" "[B")) (.int 3)) (by decide +kernel)
    · exact hs (Cond.eq (.length (.field (.string "SpiceThrees$Text" 80) "java/lang/String" "value" "[B")) (.int 4)) (by decide +kernel)
    · exact hs (Cond.eq (.length (.field (.string "SpiceThrees$Text" 82) "java/lang/String" "value" "[B")) (.int 4)) (by decide +kernel)
    · exact hs (Cond.eq (.length (.field (.string "SpiceThrees$Text" 84) "java/lang/String" "value" "[B")) (.int 4)) (by decide +kernel)
    · exact hs (Cond.eq (.length (.field (.string "SpiceThrees$Text" 86) "java/lang/String" "value" "[B")) (.int 4)) (by decide +kernel)
    · exact hs (Cond.eq (.length (.field (.string "SpiceThrees$Text" 88) "java/lang/String" "value" "[B")) (.int 4)) (by decide +kernel)
    · exact hs (Cond.eq (.length (.field (.string "SpiceThrees$Text" 90) "java/lang/String" "value" "[B")) (.int 0)) (by decide +kernel)
  · rcases (show i = 0 ∨ i = 1 ∨ i = 2 ∨ i = 3 ∨ i = 4 ∨ i = 5 ∨ i = 6 by omega) with rfl | rfl | rfl | rfl | rfl | rfl | rfl
    · have hj2 : j < 3 := hj
      rcases (show j = 0 ∨ j = 1 ∨ j = 2 by omega) with rfl | rfl | rfl
      · exact hs (Cond.eq (.elem (.field (.string "SpiceThrees$Text" 78) "java/lang/String" "value" "[B") (.int 0)) (.int 106)) (by decide +kernel)
      · exact hs (Cond.eq (.elem (.field (.string "SpiceThrees$Text" 78) "java/lang/String" "value" "[B") (.int 1)) (.int 97)) (by decide +kernel)
      · exact hs (Cond.eq (.elem (.field (.string "SpiceThrees$Text" 78) "java/lang/String" "value" "[B") (.int 2)) (.int 114)) (by decide +kernel)
    · have hj2 : j < 4 := hj
      rcases (show j = 0 ∨ j = 1 ∨ j = 2 ∨ j = 3 by omega) with rfl | rfl | rfl | rfl
      · exact hs (Cond.eq (.elem (.field (.string "SpiceThrees$Text" 80) "java/lang/String" "value" "[B") (.int 0)) (.int 114)) (by decide +kernel)
      · exact hs (Cond.eq (.elem (.field (.string "SpiceThrees$Text" 80) "java/lang/String" "value" "[B") (.int 1)) (.int 117)) (by decide +kernel)
      · exact hs (Cond.eq (.elem (.field (.string "SpiceThrees$Text" 80) "java/lang/String" "value" "[B") (.int 2)) (.int 108)) (by decide +kernel)
      · exact hs (Cond.eq (.elem (.field (.string "SpiceThrees$Text" 80) "java/lang/String" "value" "[B") (.int 3)) (.int 101)) (by decide +kernel)
    · have hj2 : j < 4 := hj
      rcases (show j = 0 ∨ j = 1 ∨ j = 2 ∨ j = 3 by omega) with rfl | rfl | rfl | rfl
      · exact hs (Cond.eq (.elem (.field (.string "SpiceThrees$Text" 82) "java/lang/String" "value" "[B") (.int 0)) (.int 119)) (by decide +kernel)
      · exact hs (Cond.eq (.elem (.field (.string "SpiceThrees$Text" 82) "java/lang/String" "value" "[B") (.int 1)) (.int 97)) (by decide +kernel)
      · exact hs (Cond.eq (.elem (.field (.string "SpiceThrees$Text" 82) "java/lang/String" "value" "[B") (.int 2)) (.int 110)) (by decide +kernel)
      · exact hs (Cond.eq (.elem (.field (.string "SpiceThrees$Text" 82) "java/lang/String" "value" "[B") (.int 3)) (.int 116)) (by decide +kernel)
    · have hj2 : j < 4 := hj
      rcases (show j = 0 ∨ j = 1 ∨ j = 2 ∨ j = 3 by omega) with rfl | rfl | rfl | rfl
      · exact hs (Cond.eq (.elem (.field (.string "SpiceThrees$Text" 84) "java/lang/String" "value" "[B") (.int 0)) (.int 100)) (by decide +kernel)
      · exact hs (Cond.eq (.elem (.field (.string "SpiceThrees$Text" 84) "java/lang/String" "value" "[B") (.int 1)) (.int 114)) (by decide +kernel)
      · exact hs (Cond.eq (.elem (.field (.string "SpiceThrees$Text" 84) "java/lang/String" "value" "[B") (.int 2)) (.int 111)) (by decide +kernel)
      · exact hs (Cond.eq (.elem (.field (.string "SpiceThrees$Text" 84) "java/lang/String" "value" "[B") (.int 3)) (.int 112)) (by decide +kernel)
    · have hj2 : j < 4 := hj
      rcases (show j = 0 ∨ j = 1 ∨ j = 2 ∨ j = 3 by omega) with rfl | rfl | rfl | rfl
      · exact hs (Cond.eq (.elem (.field (.string "SpiceThrees$Text" 86) "java/lang/String" "value" "[B") (.int 0)) (.int 112)) (by decide +kernel)
      · exact hs (Cond.eq (.elem (.field (.string "SpiceThrees$Text" 86) "java/lang/String" "value" "[B") (.int 1)) (.int 111)) (by decide +kernel)
      · exact hs (Cond.eq (.elem (.field (.string "SpiceThrees$Text" 86) "java/lang/String" "value" "[B") (.int 2)) (.int 117)) (by decide +kernel)
      · exact hs (Cond.eq (.elem (.field (.string "SpiceThrees$Text" 86) "java/lang/String" "value" "[B") (.int 3)) (.int 114)) (by decide +kernel)
    · have hj2 : j < 4 := hj
      rcases (show j = 0 ∨ j = 1 ∨ j = 2 ∨ j = 3 by omega) with rfl | rfl | rfl | rfl
      · exact hs (Cond.eq (.elem (.field (.string "SpiceThrees$Text" 88) "java/lang/String" "value" "[B") (.int 0)) (.int 109)) (by decide +kernel)
      · exact hs (Cond.eq (.elem (.field (.string "SpiceThrees$Text" 88) "java/lang/String" "value" "[B") (.int 1)) (.int 111)) (by decide +kernel)
      · exact hs (Cond.eq (.elem (.field (.string "SpiceThrees$Text" 88) "java/lang/String" "value" "[B") (.int 2)) (.int 114)) (by decide +kernel)
      · exact hs (Cond.eq (.elem (.field (.string "SpiceThrees$Text" 88) "java/lang/String" "value" "[B") (.int 3)) (.int 101)) (by decide +kernel)
    · exact absurd hj (Nat.not_lt_zero j)
  · rcases (show i = 0 ∨ i = 1 ∨ i = 2 ∨ i = 3 ∨ i = 4 ∨ i = 5 ∨ i = 6 by omega) with rfl | rfl | rfl | rfl | rfl | rfl | rfl
    · rcases (show j = 0 ∨ j = 1 ∨ j = 2 ∨ j = 3 ∨ j = 4 ∨ j = 5 ∨ j = 6 by omega) with rfl | rfl | rfl | rfl | rfl | rfl | rfl
      · exact absurd rfl hij
      · exact Or.inl (hs (Cond.not (Cond.eq (.string "SpiceThrees$Text" 78) (.string "SpiceThrees$Text" 80))) (by decide +kernel))
      · exact Or.inl (hs (Cond.not (Cond.eq (.string "SpiceThrees$Text" 78) (.string "SpiceThrees$Text" 82))) (by decide +kernel))
      · exact Or.inl (hs (Cond.not (Cond.eq (.string "SpiceThrees$Text" 78) (.string "SpiceThrees$Text" 84))) (by decide +kernel))
      · exact Or.inl (hs (Cond.not (Cond.eq (.string "SpiceThrees$Text" 78) (.string "SpiceThrees$Text" 86))) (by decide +kernel))
      · exact Or.inl (hs (Cond.not (Cond.eq (.string "SpiceThrees$Text" 78) (.string "SpiceThrees$Text" 88))) (by decide +kernel))
      · exact Or.inl (hs (Cond.not (Cond.eq (.string "SpiceThrees$Text" 78) (.string "SpiceThrees$Text" 90))) (by decide +kernel))
    · rcases (show j = 0 ∨ j = 1 ∨ j = 2 ∨ j = 3 ∨ j = 4 ∨ j = 5 ∨ j = 6 by omega) with rfl | rfl | rfl | rfl | rfl | rfl | rfl
      · exact Or.inr (hs (Cond.not (Cond.eq (.string "SpiceThrees$Text" 78) (.string "SpiceThrees$Text" 80))) (by decide +kernel))
      · exact absurd rfl hij
      · exact Or.inl (hs (Cond.not (Cond.eq (.string "SpiceThrees$Text" 80) (.string "SpiceThrees$Text" 82))) (by decide +kernel))
      · exact Or.inl (hs (Cond.not (Cond.eq (.string "SpiceThrees$Text" 80) (.string "SpiceThrees$Text" 84))) (by decide +kernel))
      · exact Or.inl (hs (Cond.not (Cond.eq (.string "SpiceThrees$Text" 80) (.string "SpiceThrees$Text" 86))) (by decide +kernel))
      · exact Or.inl (hs (Cond.not (Cond.eq (.string "SpiceThrees$Text" 80) (.string "SpiceThrees$Text" 88))) (by decide +kernel))
      · exact Or.inl (hs (Cond.not (Cond.eq (.string "SpiceThrees$Text" 80) (.string "SpiceThrees$Text" 90))) (by decide +kernel))
    · rcases (show j = 0 ∨ j = 1 ∨ j = 2 ∨ j = 3 ∨ j = 4 ∨ j = 5 ∨ j = 6 by omega) with rfl | rfl | rfl | rfl | rfl | rfl | rfl
      · exact Or.inr (hs (Cond.not (Cond.eq (.string "SpiceThrees$Text" 78) (.string "SpiceThrees$Text" 82))) (by decide +kernel))
      · exact Or.inr (hs (Cond.not (Cond.eq (.string "SpiceThrees$Text" 80) (.string "SpiceThrees$Text" 82))) (by decide +kernel))
      · exact absurd rfl hij
      · exact Or.inl (hs (Cond.not (Cond.eq (.string "SpiceThrees$Text" 82) (.string "SpiceThrees$Text" 84))) (by decide +kernel))
      · exact Or.inl (hs (Cond.not (Cond.eq (.string "SpiceThrees$Text" 82) (.string "SpiceThrees$Text" 86))) (by decide +kernel))
      · exact Or.inl (hs (Cond.not (Cond.eq (.string "SpiceThrees$Text" 82) (.string "SpiceThrees$Text" 88))) (by decide +kernel))
      · exact Or.inl (hs (Cond.not (Cond.eq (.string "SpiceThrees$Text" 82) (.string "SpiceThrees$Text" 90))) (by decide +kernel))
    · rcases (show j = 0 ∨ j = 1 ∨ j = 2 ∨ j = 3 ∨ j = 4 ∨ j = 5 ∨ j = 6 by omega) with rfl | rfl | rfl | rfl | rfl | rfl | rfl
      · exact Or.inr (hs (Cond.not (Cond.eq (.string "SpiceThrees$Text" 78) (.string "SpiceThrees$Text" 84))) (by decide +kernel))
      · exact Or.inr (hs (Cond.not (Cond.eq (.string "SpiceThrees$Text" 80) (.string "SpiceThrees$Text" 84))) (by decide +kernel))
      · exact Or.inr (hs (Cond.not (Cond.eq (.string "SpiceThrees$Text" 82) (.string "SpiceThrees$Text" 84))) (by decide +kernel))
      · exact absurd rfl hij
      · exact Or.inl (hs (Cond.not (Cond.eq (.string "SpiceThrees$Text" 84) (.string "SpiceThrees$Text" 86))) (by decide +kernel))
      · exact Or.inl (hs (Cond.not (Cond.eq (.string "SpiceThrees$Text" 84) (.string "SpiceThrees$Text" 88))) (by decide +kernel))
      · exact Or.inl (hs (Cond.not (Cond.eq (.string "SpiceThrees$Text" 84) (.string "SpiceThrees$Text" 90))) (by decide +kernel))
    · rcases (show j = 0 ∨ j = 1 ∨ j = 2 ∨ j = 3 ∨ j = 4 ∨ j = 5 ∨ j = 6 by omega) with rfl | rfl | rfl | rfl | rfl | rfl | rfl
      · exact Or.inr (hs (Cond.not (Cond.eq (.string "SpiceThrees$Text" 78) (.string "SpiceThrees$Text" 86))) (by decide +kernel))
      · exact Or.inr (hs (Cond.not (Cond.eq (.string "SpiceThrees$Text" 80) (.string "SpiceThrees$Text" 86))) (by decide +kernel))
      · exact Or.inr (hs (Cond.not (Cond.eq (.string "SpiceThrees$Text" 82) (.string "SpiceThrees$Text" 86))) (by decide +kernel))
      · exact Or.inr (hs (Cond.not (Cond.eq (.string "SpiceThrees$Text" 84) (.string "SpiceThrees$Text" 86))) (by decide +kernel))
      · exact absurd rfl hij
      · exact Or.inl (hs (Cond.not (Cond.eq (.string "SpiceThrees$Text" 86) (.string "SpiceThrees$Text" 88))) (by decide +kernel))
      · exact Or.inl (hs (Cond.not (Cond.eq (.string "SpiceThrees$Text" 86) (.string "SpiceThrees$Text" 90))) (by decide +kernel))
    · rcases (show j = 0 ∨ j = 1 ∨ j = 2 ∨ j = 3 ∨ j = 4 ∨ j = 5 ∨ j = 6 by omega) with rfl | rfl | rfl | rfl | rfl | rfl | rfl
      · exact Or.inr (hs (Cond.not (Cond.eq (.string "SpiceThrees$Text" 78) (.string "SpiceThrees$Text" 88))) (by decide +kernel))
      · exact Or.inr (hs (Cond.not (Cond.eq (.string "SpiceThrees$Text" 80) (.string "SpiceThrees$Text" 88))) (by decide +kernel))
      · exact Or.inr (hs (Cond.not (Cond.eq (.string "SpiceThrees$Text" 82) (.string "SpiceThrees$Text" 88))) (by decide +kernel))
      · exact Or.inr (hs (Cond.not (Cond.eq (.string "SpiceThrees$Text" 84) (.string "SpiceThrees$Text" 88))) (by decide +kernel))
      · exact Or.inr (hs (Cond.not (Cond.eq (.string "SpiceThrees$Text" 86) (.string "SpiceThrees$Text" 88))) (by decide +kernel))
      · exact absurd rfl hij
      · exact Or.inl (hs (Cond.not (Cond.eq (.string "SpiceThrees$Text" 88) (.string "SpiceThrees$Text" 90))) (by decide +kernel))
    · rcases (show j = 0 ∨ j = 1 ∨ j = 2 ∨ j = 3 ∨ j = 4 ∨ j = 5 ∨ j = 6 by omega) with rfl | rfl | rfl | rfl | rfl | rfl | rfl
      · exact Or.inr (hs (Cond.not (Cond.eq (.string "SpiceThrees$Text" 78) (.string "SpiceThrees$Text" 90))) (by decide +kernel))
      · exact Or.inr (hs (Cond.not (Cond.eq (.string "SpiceThrees$Text" 80) (.string "SpiceThrees$Text" 90))) (by decide +kernel))
      · exact Or.inr (hs (Cond.not (Cond.eq (.string "SpiceThrees$Text" 82) (.string "SpiceThrees$Text" 90))) (by decide +kernel))
      · exact Or.inr (hs (Cond.not (Cond.eq (.string "SpiceThrees$Text" 84) (.string "SpiceThrees$Text" 90))) (by decide +kernel))
      · exact Or.inr (hs (Cond.not (Cond.eq (.string "SpiceThrees$Text" 86) (.string "SpiceThrees$Text" 90))) (by decide +kernel))
      · exact Or.inr (hs (Cond.not (Cond.eq (.string "SpiceThrees$Text" 88) (.string "SpiceThrees$Text" 90))) (by decide +kernel))
      · exact absurd rfl hij
theorem st_all (hs : ∀ c ∈ flatC (Jvm.Cond.and given_1 narrow_1), c.before args s = true) (ht : ∀ w ∈ lw_tbl, w.before args s = true) (hA : ∀ a : Nat, a < s.heap.size → ¬ A a) (hN : ∀ w ∈ NWS, va_Nw w s) : ∃ stat : Nat → Nat, SF stat A s s.heap := by
  obtain ⟨t, h1, h2⟩ := st_pow hs ht hA
  obtain ⟨adK, adV, h3, h4⟩ := st_str (A := A) hs hA
  refine ⟨fun k => if k = 1000 then t else if k < 1101 then adK (k - 1001) else adV (k - 1101), h1, h2, ?_, fun i hi => ?_, va_Zof (ht _ (List.mem_of_getElem? (i := 566) (by decide +kernel))) (ht _ (List.mem_of_getElem? (i := 74) (by decide +kernel))) (va_eqi (hs (Cond.eq (.static "java/lang/String" "COMPACT_STRINGS" "Z") (.int 1)) (by decide +kernel))) hA, va_Zqof (ht _ (List.mem_of_getElem? (i := 582) (by decide +kernel))) (ht _ (List.mem_of_getElem? (i := 76) (by decide +kernel))) (hs (Cond.isRef (.static "jdk/internal/util/Preconditions" "SIOOBE_FORMATTER" "Ljava/util/function/BiFunction;")) (by decide +kernel)) hA, hN⟩
  · have e : ∀ i, i < 7 → (if 1001 + i = 1000 then t else if 1001 + i < 1101 then adK (1001 + i - 1001) else adV (1001 + i - 1101)) = adK i := fun i hi => by
      rw [if_neg (by omega), if_pos (by omega), show 1001 + i - 1001 = i by omega]
    have e2 : ∀ i, (if 1101 + i = 1000 then t else if 1101 + i < 1101 then adK (1101 + i - 1001) else adV (1101 + i - 1101)) = adV i := fun i => by
      rw [if_neg (by omega), if_neg (by omega), show 1101 + i - 1101 = i by omega]
    refine ⟨fun i hi => ?_, fun i j hi hj hij => ?_⟩
    · have := h3.1 i hi
      dsimp only
      rw [e i hi, e2 i]
      exact this
    · dsimp only at hij
      rw [e i hi, e j hj] at hij
      exact h3.2 i j hi hj hij
  · dsimp only
    rw [if_neg (by omega), if_pos (by omega), show 1001 + i - 1001 = i by omega]
    rcases (show i = 0 ∨ i = 1 ∨ i = 2 ∨ i = 3 ∨ i = 4 ∨ i = 5 ∨ i = 6 by omega) with rfl | rfl | rfl | rfl | rfl | rfl | rfl
    · exact vk_R.of (A := args) (ht _ (List.mem_of_getElem? (i := 550) (by decide +kernel))) (h4 0 (by decide))
    · exact vk_R.of (A := args) (ht _ (List.mem_of_getElem? (i := 551) (by decide +kernel))) (h4 1 (by decide))
    · exact vk_R.of (A := args) (ht _ (List.mem_of_getElem? (i := 552) (by decide +kernel))) (h4 2 (by decide))
    · exact vk_R.of (A := args) (ht _ (List.mem_of_getElem? (i := 553) (by decide +kernel))) (h4 3 (by decide))
    · exact vk_R.of (A := args) (ht _ (List.mem_of_getElem? (i := 554) (by decide +kernel))) (h4 4 (by decide))
    · exact vk_R.of (A := args) (ht _ (List.mem_of_getElem? (i := 555) (by decide +kernel))) (h4 5 (by decide))
    · exact vk_R.of (A := args) (ht _ (List.mem_of_getElem? (i := 556) (by decide +kernel))) (h4 6 (by decide))
end ST
