/-! the constants at the law's entry -/
section ST
variable {s : State} {args : Array Value} {A : Nat → Prop}
theorem st_pow (hs : ∀ c ∈ flatC (Jvm.Cond.and given_1 narrow_1), c.before args s = true) (ht : ∀ w ∈ lw_tbl, w.before args s = true) (hA : ∀ a : Nat, a < s.heap.size → ¬ A a) : ∃ t : Nat, va_Z "SpiceThrees" "POWERS" "[I" (.ref t) A s s.heap ∧ va_T .int t 9 (fun j => .int (Int32.ofInt (pow3 j))) A s s.heap := by
  have hel : ∀ j : Nat, j < 9 → (Term.elem (.static "SpiceThrees" "POWERS" "[I") (.int (Int32.ofNat j))).eval args s none [] s = some ((fun j => Value.int (Int32.ofInt (pow3 j))) j) := by
    intro j hj
    rcases (show j = 0 ∨ j = 1 ∨ j = 2 ∨ j = 3 ∨ j = 4 ∨ j = 5 ∨ j = 6 ∨ j = 7 ∨ j = 8 by omega) with rfl | rfl | rfl | rfl | rfl | rfl | rfl | rfl | rfl
    · exact va_eqt (hs (Cond.eq (.elem (.static "SpiceThrees" "POWERS" "[I") (.int 0)) (.int 1)) (by decide +kernel))
    · exact va_eqt (hs (Cond.eq (.elem (.static "SpiceThrees" "POWERS" "[I") (.int 1)) (.int 3)) (by decide +kernel))
    · exact va_eqt (hs (Cond.eq (.elem (.static "SpiceThrees" "POWERS" "[I") (.int 2)) (.int 9)) (by decide +kernel))
    · exact va_eqt (hs (Cond.eq (.elem (.static "SpiceThrees" "POWERS" "[I") (.int 3)) (.int 27)) (by decide +kernel))
    · exact va_eqt (hs (Cond.eq (.elem (.static "SpiceThrees" "POWERS" "[I") (.int 4)) (.int 81)) (by decide +kernel))
    · exact va_eqt (hs (Cond.eq (.elem (.static "SpiceThrees" "POWERS" "[I") (.int 5)) (.int 243)) (by decide +kernel))
    · exact va_eqt (hs (Cond.eq (.elem (.static "SpiceThrees" "POWERS" "[I") (.int 6)) (.int 729)) (by decide +kernel))
    · exact va_eqt (hs (Cond.eq (.elem (.static "SpiceThrees" "POWERS" "[I") (.int 7)) (.int 2187)) (by decide +kernel))
    · exact va_eqt (hs (Cond.eq (.elem (.static "SpiceThrees" "POWERS" "[I") (.int 8)) (.int 6561)) (by decide +kernel))
  obtain ⟨t, h1, h2⟩ := va_Tof (f := fun j => .int (Int32.ofInt (pow3 j))) (A := A) (tm := .static "SpiceThrees" "POWERS" "[I") (ty := .int) (N := 9) (by decide) (hs (Cond.arrayOf (.static "SpiceThrees" "POWERS" "[I") .int) (by decide +kernel)) (va_eqt (hs (Cond.eq (.length (.static "SpiceThrees" "POWERS" "[I")) (.int 9)) (by decide +kernel))) hel hA
  exact ⟨t, va_Zref (ht _ (List.mem_of_getElem? (i := 295) (by decide +kernel))) (ht _ (List.mem_of_getElem? (i := 21) (by decide +kernel))) h1 hA, h2⟩
theorem st_all (hs : ∀ c ∈ flatC (Jvm.Cond.and given_1 narrow_1), c.before args s = true) (ht : ∀ w ∈ lw_tbl, w.before args s = true) (hA : ∀ a : Nat, a < s.heap.size → ¬ A a) (hN : ∀ w ∈ NWS, va_Nw w s) : ∃ stat : Nat → Nat, SF stat A s s.heap := by
  obtain ⟨t, h1, h2⟩ := st_pow hs ht hA
  exact ⟨fun _ => t, h1, h2, hN⟩
end ST
