/-! questions: jars, mixes -/
def QF (ν ν' : Mem) : Prop := (∀ q, ν' 0 q = ν 0 q) ∧ ∀ p q, 10 ≤ p → p ≤ 65 → ν' p q = ν p q
theorem QF_rf (ν : Mem) : QF ν ν := ⟨fun _ => rfl, fun _ _ _ _ => rfl⟩
theorem QF_of {ν ν' : Mem} (f : ∀ p q, (p = 0 ∨ (10 ≤ p ∧ p ≤ 65)) → ν' p q = ν p q) : QF ν ν' := ⟨fun q => f 0 q (Or.inl rfl), fun p q a b => f p q (Or.inr ⟨a, b⟩)⟩
theorem QF_tr {a b c : Mem} (h : QF a b) (g : QF b c) : QF a c := ⟨fun q => by rw [g.1, h.1], fun p q x y => by rw [g.2 p q x y, h.2 p q x y]⟩
theorem QF_XF {ν ν' : Mem} (h : QF ν ν') : XF ν ν' := ⟨h.1, fun p q a b => h.2 p q (by omega) (by omega), h.2 _ _ (by omega) (by omega), fun q => h.2 _ _ (by omega) (by omega)⟩
theorem q_SRel {a : Nat → Int} {ν ν' : Mem} (S : SRel a ν 10) (F : QF ν ν') : SRel a ν' 10 := SRel_fr S (fun p q x y => F.2 p q (by omega) (by omega))
theorem learn_Q {a : Nat → Int} {ν : Mem} {t : Int} (w : Wf a t) (h : SRel a ν 10) (T : TI ν) : ∃ ν', xt_learn ν = some ν' ∧ LK ν' (rf a) (rn a) ∧ QF ν ν' := by
  obtain ⟨ν', e, L, f⟩ := learn_a w h T
  exact ⟨ν', e, L, QF_of (fun p q hp => f p q (by omega) (by omega) (by omega) (by omega))⟩
theorem taste_X {a : Nat → Int} {ν : Mem} {t m : Int} (w : Wf a t) (h : SRel a ν 10) (T : TI ν) (hm : isM m) : ∃ ν', xx_tasteOf m ν = some (tau (sp a) m, ν') ∧ LK ν' (rf a) (rn a) ∧ QF ν ν' := by
  obtain ⟨ν', e, L, f⟩ := learn_Q w h T
  exact ⟨ν', by rw [xx_tasteOf, e, sb, leastLike_eq L hm, sb]; rfl, L, f⟩
theorem cheap_X {a : Nat → Int} {ν : Mem} {t m : Int} (w : Wf a t) (h : SRel a ν 10) (T : TI ν) (hm : isM m) : ∃ d ν', xx_cheapestLike m ν = some (d, ν') ∧ IsC (sp a) a m d ∧ TI ν' ∧ QF ν ν' := by
  obtain ⟨ν1, e, L, f⟩ := learn_Q w h T
  have S1 := q_SRel h f
  obtain ⟨d, ν', e2, c, f2, L2⟩ := xcheap_eq L (sokP S1 w) hm
  refine ⟨d, ν', by rw [xx_cheapestLike, e, sb, e2, sb], ⟨c.1, c.2.1, fun y hy he => ?_⟩, ⟨_, _, L2⟩, QF_tr f (QF_of (fun p q hp => f2 p q (by omega) (by omega) (by omega) (by omega)))⟩
  have := c.2.2 y hy he
  rwa [sprc S1, sprc S1] at this
theorem price_X {a : Nat → Int} {ν : Mem} {t m : Int} (w : Wf a t) (h : SRel a ν 10) (hm : isM m) : xx_costOf m ν = some (prc a m) := by rw [xprice_eq (sokP h w) hm, sprc h]