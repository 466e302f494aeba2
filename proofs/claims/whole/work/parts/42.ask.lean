/-! questions: jars, mixes -/
def QF (ν ν' : Mem) : Prop := (∀ q, ν' 0 q = ν 0 q) ∧ ∀ p q, 10 ≤ p → p ≤ 65 → ν' p q = ν p q
theorem QF_rf (ν : Mem) : QF ν ν := ⟨fun _ => rfl, fun _ _ _ _ => rfl⟩
theorem QF_of {ν ν' : Mem} (f : ∀ p q, (p = 0 ∨ (10 ≤ p ∧ p ≤ 65)) → ν' p q = ν p q) : QF ν ν' := ⟨fun q => f 0 q (Or.inl rfl), fun p q a b => f p q (Or.inr ⟨a, b⟩)⟩
theorem QF_tr {a b c : Mem} (h : QF a b) (g : QF b c) : QF a c := ⟨fun q => by rw [g.1, h.1], fun p q x y => by rw [g.2 p q x y, h.2 p q x y]⟩
theorem QF_XF {ν ν' : Mem} (h : QF ν ν') : XF ν ν' := ⟨h.1, fun p q a b => h.2 p q (by omega) (by omega), h.2 _ _ (by omega) (by omega), fun q => h.2 _ _ (by omega) (by omega)⟩
theorem q_end {μ μ' ν ν' : Mem} {t : Int} (M' : MI μ' t) (K : KP μ μ') (X : XI ν μ) (F : QF ν ν') (T : TI ν') : MI μ' (t + 1500000) ∧ XI ν' μ' := ⟨MI_mono M' (by omega), KP_XI K X (QF_XF F) (fun p q a b => F.2 p q a (by omega)) T⟩
theorem q_SRel {a : Nat → Int} {ν ν' : Mem} (S : SRel a ν 10) (F : QF ν ν') : SRel a ν' 10 := SRel_fr S (fun p q x y => F.2 p q (by omega) (by omega))
theorem learn_Q {a : Nat → Int} {ν : Mem} {t : Int} (w : Wf a t) (h : SRel a ν 10) (T : TI ν) : ∃ ν', xt_learn ν = some ν' ∧ LK ν' (rf a) (rn a) ∧ QF ν ν' := by
  obtain ⟨ν', e, L, f⟩ := learn_a w h T
  exact ⟨ν', e, L, QF_of (fun p q hp => f p q (by omega) (by omega) (by omega) (by omega))⟩
theorem taste_X {a : Nat → Int} {ν : Mem} {t m : Int} (w : Wf a t) (h : SRel a ν 10) (T : TI ν) (hm : isM m) : ∃ ν', xx_tasteOf m ν = some (tau (sp a) m, ν') ∧ LK ν' (rf a) (rn a) ∧ QF ν ν' := by
  obtain ⟨ν', e, L, f⟩ := learn_Q w h T
  exact ⟨ν', by rw [xx_tasteOf, e, sb, leastLike_eq L hm, sb]; rfl, L, f⟩
theorem cheap_X {a : Nat → Int} {ν : Mem} {t m : Int} (w : Wf a t) (h : SRel a ν 10) (T : TI ν) (hm : isM m) : ∃ d ν', xx_cheapestLike m ν = some (d, ν') ∧ IsC (sp a) a m d ∧ TI ν' ∧ QF ν ν' := by
  obtain ⟨ν1, e, L, f⟩ := learn_Q w h T
  have S1 := q_SRel h f
  obtain ⟨d, ν', e2, c, f2, L2⟩ := xcheap_eq L (sokP S1 w) hm
  refine ⟨d, ν', by rw [xx_cheapestLike, e, sb, e2, sb], ⟨c.1, c.2.1, fun y hy he => ?_⟩, ⟨_, _, L2⟩, QF_tr f (QF_of (fun p q hp => f2 p q (by omega) (by omega) (by omega) (by omega)))⟩
  have := c.2.2 y hy he
  rwa [sprc S1, sprc S1] at this
theorem cheap_M {μ : Mem} {t m : Int} (M : MI μ t) (hm : isM m) : ∃ d μ', mm_cheapest m μ = some (d, μ') ∧ IsC (sp (μ 1)) (μ 1) m d ∧ MI μ' t ∧ KP μ μ' := by
  obtain ⟨μ', e, M', K, h8, L⟩ := taste_MI M hm
  have k1 := KP_1 K
  have ti := tau_is (sp_sg (μ 1)) hm
  have b := ti.1
  obtain ⟨d, e2, c⟩ := mch_lp (μ := μ') (S := sp (μ 1)) (sp_sg _) M'.1.1 (fun y hy => L.2.1 y hy) hm (6561 - (tau (sp (μ 1)) m + 1)).toNat FU (tau (sp (μ 1)) m + 1) (tau (sp (μ 1)) m) (by omega) (by omega) (by have := FU_ge; omega) b ti.2.1 (fun y hy hl he => by
    have := ti.2.2 y hy he
    have hz : y = tau (sp (μ 1)) m := by omega
    rw [hz]; exact Or.inr ⟨rfl, Int.le_refl _⟩) (by omega)
  rw [k1] at c e2
  refine ⟨d, μ', ?_, c, M', K⟩
  have hp := p_price μ' k1 M.1.1 b
  rw [mm_cheapest, e, sb, bnd_eq, hp, sb, bnd_eq, w32_eq (by omega) (by omega)]
  exact e2
theorem cheap_2 {μ ν : Mem} {t m : Int} (M : MI μ t) (X : XI ν μ) (hm : isM m) : ∃ d μ' ν', mm_cheapest m μ = some (d, μ') ∧ xx_cheapestLike m ν = some (d, ν') ∧ isM d ∧ MI μ' t ∧ KP μ μ' ∧ TI ν' ∧ QF ν ν' := by
  obtain ⟨d, μ', e, c, M', K⟩ := cheap_M M hm
  obtain ⟨d2, ν', e2, c2, T, F⟩ := cheap_X M.1 X.1 X.2.1 hm
  have hd := isC_un c c2
  subst hd
  exact ⟨d, μ', ν', e, e2, c.1, M', K, T, F⟩
theorem taste_2 {μ ν : Mem} {t m : Int} (M : MI μ t) (X : XI ν μ) (hm : isM m) : ∃ μ' ν', mm_taste m μ = some (tau (sp (μ 1)) m, μ') ∧ xx_tasteOf m ν = some (tau (sp (μ 1)) m, ν') ∧ MI μ' t ∧ KP μ μ' ∧ LK ν' (rf (μ 1)) (rn (μ 1)) ∧ QF ν ν' := by
  obtain ⟨μ', e, M', K, h8, L⟩ := taste_MI M hm
  obtain ⟨ν', e2, L2, F⟩ := taste_X M.1 X.1 X.2.1 hm
  exact ⟨μ', ν', e, e2, M', K, L2, F⟩
theorem price_1 {μ : Mem} {t m : Int} (M : MI μ t) (hm : isM m) : mm_priceOf m μ = some (prc (μ 1) m) := mprice_eq M.1.1 hm
theorem price_X {a : Nat → Int} {ν : Mem} {t m : Int} (w : Wf a t) (h : SRel a ν 10) (hm : isM m) : xx_costOf m ν = some (prc a m) := by rw [xprice_eq (sokP h w) hm, sprc h]
theorem sim_jarOf (x v : Int) : SIM (mm_jarOf x v) (xx_jarOf x v) := by
  intro μ ν t h0 ht M X
  have h8 := M.1.2.1
  have b1 := fnd_b (a := μ 1) x h8.1
  rw [mm_jarOf, xx_jarOf, mfind_eq x h8, sb, xplace_eq x X.1 M.1, sb]
  by_cases c : fnd (μ 1) x = -5
  · rw [if_pos c, if_pos c, if_neg (by omega)]
    exact ⟨_, _, _, rfl, rfl, MI_mono M (by omega), X⟩
  · have m1 := mixA_M M.1 (k := fnd (μ 1) x) (by omega) (by omega)
    rw [if_neg c, if_neg c, if_pos (by omega), aget_eq (by omega) (by omega), sb, smix X.1 M.1 (by omega) (by omega), in_eq, sb]
    by_cases c2 : 0 ≤ v ∧ v ≤ 6
    · rw [if_pos c2, if_neg (by decide), mmixIn_eq μ (by omega) (by omega), sb]
      generalize mixA (μ 1) (fnd (μ 1) x) = m at m1
      rcases (show v = 0 ∨ v = 1 ∨ v = 2 ∨ v = 3 ∨ v = 4 ∨ v = 5 ∨ v = 6 by omega) with rfl | rfl | rfl | rfl | rfl | rfl | rfl
      · rw [if_pos rfl, if_pos rfl, mm_jarOf_71]
        exact ⟨_, _, _, rfl, rfl, MI_mono M (by omega), X⟩
      · rw [if_neg (by decide), if_neg (by decide), if_neg (by decide), if_pos rfl, w32_eq (by omega) (by omega), mm_told, if_pos (by decide), units_eq m1, sb, xunits_eq m1, sb, sb, mm_jarOf_71]
        exact ⟨_, _, _, rfl, rfl, MI_mono M (by omega), X⟩
      · rw [if_neg (by decide), if_neg (by decide), if_neg (by decide), if_neg (by decide), if_pos rfl, w32_eq (by omega) (by omega), mm_told, if_neg (by decide), if_pos (by decide), price_1 M m1, sb, price_X M.1 X.1 m1, sb, sb, mm_jarOf_71]
        exact ⟨_, _, _, rfl, rfl, MI_mono M (by omega), X⟩
      · obtain ⟨μ', ν', e1, e2, M', K, L, F⟩ := taste_2 M X m1
        rw [if_neg (by decide), if_neg (by decide), if_neg (by decide), if_neg (by decide), if_neg (by decide), if_pos rfl, w32_eq (by omega) (by omega), mm_told, if_neg (by decide), if_neg (by decide), if_pos (by decide), e1, sb, e2, sb, sb, mm_jarOf_71]
        exact ⟨_, _, _, rfl, rfl, q_end M' K X F ⟨_, _, L⟩⟩
      · obtain ⟨μ', ν', e1, e2, M', K, L, F⟩ := taste_2 M X m1
        rw [if_neg (by decide), if_neg (by decide), if_neg (by decide), if_neg (by decide), if_neg (by decide), if_neg (by decide), if_pos rfl, w32_eq (by omega) (by omega), mm_told, if_neg (by decide), if_neg (by decide), if_neg (by decide), if_pos (by decide), e1, sb, e2, sb]
        by_cases z : tau (sp (μ 1)) m = 0
        · rw [if_pos z, if_pos z, mm_told_62, xx_jarOf_111, sb, mm_jarOf_71]
          exact ⟨_, _, _, rfl, rfl, q_end M' K X F ⟨_, _, L⟩⟩
        · rw [if_neg z, if_neg z, mm_told_62, xx_jarOf_111, sb, mm_jarOf_71]
          exact ⟨_, _, _, rfl, rfl, q_end M' K X F ⟨_, _, L⟩⟩
      · obtain ⟨d, μ', ν', e1, e2, dm, M', K, T, F⟩ := cheap_2 M X m1
        rw [if_neg (by decide), if_neg (by decide), if_neg (by decide), if_neg (by decide), if_neg (by decide), if_neg (by decide), if_neg (by decide), if_pos rfl, w32_eq (by omega) (by omega), mm_told, if_neg (by decide), if_neg (by decide), if_neg (by decide), if_neg (by decide), e1, sb, e2, sb, sb, mm_jarOf_71]
        exact ⟨_, _, _, rfl, rfl, q_end M' K X F T⟩
      · obtain ⟨d, μ', ν', e1, e2, dm, M', K, T, F⟩ := cheap_2 M X m1
        have hp := price_1 M' dm
        rw [KP_1 K] at hp
        rw [if_neg (by decide), if_pos rfl, if_neg (by decide), if_neg (by decide), if_neg (by decide), if_neg (by decide), if_neg (by decide), if_neg (by decide), if_pos rfl, e1, sb, e2, sb, hp, sb, price_X M.1 (q_SRel X.1 F) dm, sb, mm_jarOf_71]
        exact ⟨_, _, _, rfl, rfl, q_end M' K X F T⟩
    · rw [if_neg c2, if_pos rfl, if_neg (by omega), if_neg (by omega), if_neg (by omega), if_neg (by omega), if_neg (by omega), if_neg (by omega), if_neg (by omega)]
      exact ⟨_, _, _, rfl, rfl, MI_mono M (by omega), X⟩
