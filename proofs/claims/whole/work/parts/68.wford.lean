/-! rows after an order of a text -/
section TXT14
variable {tx : Nat → Int} {len : Nat}
theorem Wf_sOrd {a : Nat → Int} {t : Int} {p : Nat} (w : Wf a t) (h0 : 0 ≤ t) (hl : len ≤ 60) (hp : p ≤ len) : Wf (sOrd tx len p a).2 (t + 100000) := by
  have hq : (wS tx len p).2 ≤ len := wdP_le _ _ hp
  have hA : okA (mV tx len (wS tx len p).2) len := by
    rcases mV_ok (tx := tx) hq with h | h
    · have := mP_b (tx := tx) hq
      exact ⟨h.1, by have := h.2; omega⟩
    · exact h
  have hu := uS_1 hA.1 8 (Nat.le_refl _)
  have hs := pS_u hA.1 w.1 8 (Nat.le_refl _)
  have h2 := hA.2
  have hM := mS_M (mV tx len (wS tx len p).2)
  unfold sOrd
  split
  · exact Wf_sComes w h0 hM (by omega) (by omega)
  · split
    · exact Wf_mono (Wf_sRule w hM) (by omega)
    · split
      · exact Wf_mono (Wf_sWant w hM) (by omega)
      · split
        · exact Wf_mono (Wf_sDrop w) (by omega)
        · split
          · exact Wf_mono (Wf_sPours w h0) (by omega)
          · exact Wf_mono (Wf_sMore w h0) (by omega)
theorem sOrd_s {a : Nat → Int} {t : Int} {p : Nat} (w : Wf a t) : (sOrd tx len p a).1 < 0 → (sOrd tx len p a).2 = a := by
  unfold sOrd
  split
  · exact sComes_s w.2.2.2.1.1
  · split
    · intro h
      unfold sRule at h ⊢
      split
      · rfl
      · rename_i c
        rw [if_neg c] at h
        exact absurd h (show ¬ (0 : Int) < 0 by decide)
    · split
      · exact sWant_s w.2.2.2.2.2.2.1.1
      · split
        · intro h
          unfold sDrop at h ⊢
          split
          · rename_i c
            rw [if_pos c] at h
            exact absurd h (show ¬ (0 : Int) < 0 by decide)
          · rfl
        · split
          · exact sPours_s w.2.1.1
          · exact sMore_s
end TXT14
