/-! the reference's lay: the tastes of all mixes -/
noncomputable def ci (p : Prop) (a b : Int) : Int := @ite Int p (Classical.propDecidable p) a b
theorem ci_pos {p : Prop} {a b : Int} (h : p) : ci p a b = a := by unfold ci; exact if_pos h
theorem ci_neg {p : Prop} {a b : Int} (h : ¬ p) : ci p a b = b := by unfold ci; exact if_neg h
theorem ci_cong {p q : Prop} {a b : Int} (h : p ↔ q) : ci p a b = ci q a b := by
  rcases Classical.em p with hp | hp
  · rw [ci_pos hp, ci_pos (h.mp hp)]
  · rw [ci_neg hp, ci_neg (fun z => hp (h.mpr z))]