/-! typing; laying and learning in both; rules made and dropped; serving -/
/-! laying, learning -/
def rf (a : Nat → Int) : Nat → Int := fun j => a (35 + j)
def rn (a : Nat → Int) : Nat := (a 34).toNat
def sp (a : Nat → Int) : Int → Prop := spn (rf a) (-5) (rn a)
noncomputable def sr (a : Nat → Int) : Int := rk (rf a) (-5) (rn a)
theorem sp_sg (a : Nat → Int) : Sg (sp a) := spn_sg _ _ _
theorem rul_X {a : Nat → Int} {ν : Mem} {t : Int} (w : Wf a t) (h : SRel a ν 10) : rulX ν (rf a) (rn a) := ⟨by have := w.2.2.2.2.1; rw [h.2.2.1]; unfold rn; omega, by have := w.2.2.2.2.1; unfold rn; omega, fun j hj => ⟨h.2.2.2.2.2.1 j (by unfold rn at hj; omega), w.2.2.2.2.2.1 j (by unfold rn at hj; omega)⟩⟩
theorem learn_a {a : Nat → Int} {ν : Mem} {t : Int} (w : Wf a t) (h : SRel a ν 10) (T : TI ν) : ∃ ν', xt_learn ν = some ν' ∧ LK ν' (rf a) (rn a) ∧ (∀ p q, p ≠ 3 → p ≠ 4 → p ≠ 5 → p ≠ 7 → ν' p q = ν p q) := by
  obtain ⟨ν', e, f, L⟩ := learn_eq T (rul_X w h)
  exact ⟨ν', e, L, f⟩
theorem l_XF {ν ν' : Mem} (f : ∀ p q, p ≠ 3 → p ≠ 4 → p ≠ 5 → p ≠ 7 → ν' p q = ν p q) : XF ν ν' := ⟨fun q => f _ _ (by omega) (by omega) (by omega) (by omega), fun p q h1 h2 => f _ _ (by omega) (by omega) (by omega) (by omega), f _ _ (by omega) (by omega) (by omega) (by omega), fun q => f _ _ (by omega) (by omega) (by omega) (by omega)⟩
theorem strength_X {a : Nat → Int} {ν : Mem} {t : Int} (w : Wf a t) (h : SRel a ν 10) (T : TI ν) : ∃ ν', xx_strength ν = some (sr a, ν') ∧ TI ν' ∧ (∀ p q, p ≠ 3 → p ≠ 4 → p ≠ 5 → p ≠ 7 → ν' p q = ν p q) := by
  obtain ⟨ν', e, L, f⟩ := learn_a w h T
  exact ⟨ν', by rw [xx_strength, e, sb, L.2.2.1]; rfl, ⟨_, _, L⟩, f⟩
theorem sr_nn (a : Nat → Int) : 0 ≤ sr a := (rk_b _ _ _).1