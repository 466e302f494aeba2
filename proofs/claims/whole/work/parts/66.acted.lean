/-! one order acted, in the reference -/
section TXT12
variable {tx : Nat → Int} {len : Nat}
noncomputable def sOrd (tx : Nat → Int) (len p : Nat) (a : Nat → Int) : Int × (Nat → Int) :=
  if Wd tx len p = 0 then sComes a (mS (mV tx len (wS tx len p).2) 8) (uS (mV tx len (wS tx len p).2) 8) (pS a (mV tx len (wS tx len p).2) 8) else
  if Wd tx len p = 1 then sRule a (mS (mV tx len (wS tx len p).2) 8) else
  if Wd tx len p = 2 then sWant a (mS (mV tx len (wS tx len p).2) 8) else
  if Wd tx len p = 3 then sDrop a (tx (wS tx len p).2 - 48) else
  if Wd tx len p = 4 then sPours a (nV tx len (wS tx len p).2) (nV tx len ((nP tx len (wS tx len p).2).2 + 1)) else
  sMore a (nV tx len (wS tx len p).2)
theorem mV_ok {q : Nat} (h : q ≤ len) : okA (mV tx len q) (mP tx len q).2 ∨ okA (mV tx len q) len := by
  have := mxF_b (tx := tx) (len := len) (len - q) q noA h (noA_ok q)
  right
  refine ⟨this.2.2.1, ?_⟩
  have h2 := this.2.2.2
  have h3 := this.2.1
  show 2 * uS (mxF tx len (len - q) q noA).2 8 ≤ 9 * (len : Int)
  omega
theorem mS_M (A : Nat → Int) : isM (mS A 8) := ⟨(mS_b A 8).1, (mS_b A 8).2⟩
theorem mact_eq {μ : Mem} {a : Nat → Int} {t : Int} {p : Nat} (w : Wf a t) (ht : t ≤ 1000000000) (hl : len ≤ 60) (hp : p ≤ len) (h1 : μ 1 = a) (G : Wd tx len p ≤ 2 → GA a (mV tx len (wS tx len p).2) μ) : opM tx len p μ = some ((sOrd tx len p a).1, pl μ (sOrd tx len p a).2) := by
  have hμ : pl μ a = μ := pl_of h1
  have hq : (wS tx len p).2 ≤ len := wdP_le _ _ hp
  have hA : okA (mV tx len (wS tx len p).2) len := by
    rcases mV_ok (tx := tx) hq with h | h
    · have := mP_b (tx := tx) hq
      exact ⟨h.1, by have := h.2; omega⟩
    · exact h
  rw [opM, sOrd]
  by_cases c0 : Wd tx len p = 0
  · have g := G (by omega)
    have hu := uS_1 hA.1 8 (Nat.le_refl _)
    have hs := pS_u hA.1 w.1 8 (Nat.le_refl _)
    have h2 := hA.2
    have e := mcomes_eq μ (a := a) (u := uS (mV tx len (wS tx len p).2) 8) (p := pS a (mV tx len (wS tx len p).2) 8) w (by omega) (mS_M (mV tx len (wS tx len p).2)) (by omega) (by omega)
    rw [hμ] at e
    rw [if_pos c0, if_pos c0, g.2.1, g.2.2, e]
  · rw [if_neg c0, if_neg c0]
    by_cases c1 : Wd tx len p = 1
    · have e := mrules_eq μ (a := a) (x := mS (mV tx len (wS tx len p).2) 8) w
      rw [hμ] at e
      rw [if_pos c1, if_pos c1, e]
    · rw [if_neg c1, if_neg c1]
      by_cases c2 : Wd tx len p = 2
      · have e := mwants_eq μ (a := a) (x := mS (mV tx len (wS tx len p).2) 8) w
        rw [hμ] at e
        rw [if_pos c2, if_pos c2, e]
      · rw [if_neg c2, if_neg c2]
        by_cases c3 : Wd tx len p = 3
        · have e := mdrops_eq μ (a := a) (x := tx (wS tx len p).2 - 48) w
          rw [hμ] at e
          rw [if_pos c3, if_pos c3, e]
        · rw [if_neg c3, if_neg c3]
          by_cases c4 : Wd tx len p = 4
          · have e := mpours_eq μ (a := a) (x := nV tx len (wS tx len p).2) (y := nV tx len ((nP tx len (wS tx len p).2).2 + 1)) w (by omega)
            rw [hμ] at e
            rw [if_pos c4, if_pos c4, e]
          · have e := mmore_eq μ (a := a) (x := nV tx len (wS tx len p).2) w (by omega)
            rw [hμ] at e
            rw [if_neg c4, if_neg c4, e]
end TXT12
