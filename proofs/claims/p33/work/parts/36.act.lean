/-! copies of rows, in the reference; what an act leaves -/
theorem Wf_cong {a b : Nat → Int} {t : Int} (w : Wf a t) (e : ∀ j, j < 60 → b j = a j) : Wf b t := by
  have w3 := wf3 w
  obtain ⟨h1, h2, h3, h4, h5, h6, h7, h8, h9⟩ := w
  unfold Wf
  rw [e 8 (by omega), e 33 (by omega), e 34 (by omega), e 43 (by omega)]
  refine ⟨fun j hj => ?_, h2, fun q hq => ?_, h4, h5, fun q hq => ?_, h7, fun q hq => ?_, fun q hq => ?_⟩
  · rw [e j (by omega)]; exact h1 j hj
  · rw [e _ (by omega), e _ (by omega)]; exact h3 q hq
  · rw [e _ (by omega)]; exact h6 q hq
  · rw [e _ (by omega)]; exact h8 q hq
  · rw [e _ (by omega)]; exact h9 q hq