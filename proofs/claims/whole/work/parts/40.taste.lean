/-! typing; laying and learning in both; rules made and dropped; serving -/
theorem sim_clear : SIM mm_clearText xx_clearText := by
  intro μ ν t h0 ht M X
  obtain ⟨m1, m2, m3, m4, m5, m6, m7⟩ := M
  obtain ⟨h1, h2, h3, h4, h5, h6, h7, h8, h9⟩ := X
  have f' : ∀ p q, p ≠ 0 → mst μ 0 7 0 p q = μ p q := fun p q h => mst_pl h
  have f0 : ∀ q, q ≠ 7 → mst μ 0 7 0 0 q = μ 0 q := fun q h => mst_ix h
  have g' : ∀ p q, p ≠ 63 → mst ν 63 1 0 p q = ν p q := fun p q h => mst_pl h
  have e1 : mst μ 0 7 0 1 = μ 1 := by funext q; exact f' _ _ (by decide)
  have h44 : mst μ 0 7 0 4 = μ 4 := by funext q; exact f' _ _ (by decide)
  have kk : ∀ i, hr (mst μ 0 7 0) i = hr μ i := fun i => by funext j; unfold hr; exact f' _ _ (by decide)
  rw [mm_clearText, bnd_eq, xx_clearText, xw_empty, bnd_eq, sb, h8]
  refine ⟨_, mst μ 0 7 0, mst ν 63 1 0, rfl, rfl, ⟨by rw [e1]; exact Wf_mono m1 (by omega), by rw [f0 _ (by decide)]; exact m2, fun i hi => ?_, ?_, by rw [mst_same]; omega, fun i hi => ?_, LD_fr m7 e1 (fun q => f' _ _ (by decide)) (fun q => f' _ _ (by decide)) (f0 _ (by decide)) (f0 _ (by decide)) (f' _ _ (by decide))⟩, ⟨?_, ?_, ?_, ?_, fun i hi => ?_, ?_, fun hh => ?_, ?_, fun i hi => ?_⟩⟩
  · rw [f0 _ (by decide)] at hi; rw [kk]; exact Wf_mono (m3 i hi) (by omega)
  · rw [f0 _ (by decide), h44]; exact m4.imp id (fun z => ⟨z.1, Wf_mono z.2 (by omega)⟩)
  · rw [mst_same] at hi; omega
  · rw [e1]; exact SRel_fr h1 (fun p q _ _ => g' p q (by omega))
  · obtain ⟨r, k, L⟩ := h2
    exact ⟨r, k, LK_fr L (fun q => g' _ _ (by omega)) (fun q => g' _ _ (by omega)) (fun q => g' _ _ (by omega)) (fun q => g' _ _ (by omega)) (fun q => g' _ _ (by omega))⟩
  · rw [g' _ _ (by omega)]; exact h3
  · rw [g' _ _ (by omega), f0 _ (by decide)]; exact h4
  · rw [f0 _ (by decide)] at hi ⊢
    have hs := h5 i hi
    unfold slot at hs ⊢
    rw [g' 24 1 (by omega), kk]
    exact SRel_fr hs (fun p q _ _ => g' p q (by omega))
  · rw [g' _ _ (by omega), f0 _ (by decide)]; exact h6
  · rw [f0 _ (by decide)] at hh
    rw [h44]
    exact SRel_fr (h7 hh) (fun p q _ _ => g' p q (by omega))
  · rw [mst_same, mst_same]
  · rw [mst_same] at hi; omega
theorem sim_type {c : Int} (hc : 0 ≤ c ∧ c < 65536) : SIM (mm_type c) (xx_type c) := by
  intro μ ν t h0 ht M X
  rw [mm_type, xx_type, xw_append, X.2.2.2.2.2.2.2.1]
  by_cases d : μ 0 7 = 60
  · rw [if_pos d, if_neg (by omega), sb]
    exact ⟨_, _, _, rfl, rfl, MI_mono M (by omega), X⟩
  · obtain ⟨m1, m2, m3, m4, m5, m6, m7⟩ := M
    obtain ⟨h1, h2, h3, h4, h5, h6, h7, h8, h9⟩ := X
    rw [if_neg d, if_pos (by omega), aput_eq (by omega) (by omega), sb, bnd_eq, aput_eq (by omega) (by omega), sb, bnd_eq, sb, mst_same, mst_same, mst_pl (by decide), mst_pl (by decide), h8, w32_eq (by omega) (by omega), ncc_id hc.1 hc.2]
    generalize hμ : mst (mst μ 5 (μ 0 7).toNat c) 0 7 (μ 0 7 + 1) = μ'
    generalize hν : mst (mst ν 64 (μ 0 7).toNat c) 63 1 (μ 0 7 + 1) = ν'
    have f' : ∀ p q, p ≠ 0 → p ≠ 5 → μ' p q = μ p q := fun p q h h5 => by rw [← hμ, mst_pl h, mst_pl h5]
    have f0 : ∀ q, q ≠ 7 → μ' 0 q = μ 0 q := fun q h => by rw [← hμ, mst_ix h, mst_pl (by decide)]
    have f7 : μ' 0 7 = μ 0 7 + 1 := by rw [← hμ, mst_same]
    have f5 : ∀ q : Nat, μ' 5 q = if q = (μ 0 7).toNat then c else μ 5 q := fun q => by
      rw [← hμ, mst_pl (by decide)]
      by_cases z : q = (μ 0 7).toNat
      · subst z; rw [mst_same, if_pos rfl]
      · rw [mst_ix z, if_neg z]
    have g5 : ∀ q : Nat, ν' 64 q = if q = (μ 0 7).toNat then c else ν 64 q := fun q => by
      rw [← hν, mst_pl (by decide)]
      by_cases z : q = (μ 0 7).toNat
      · subst z; rw [mst_same, if_pos rfl]
      · rw [mst_ix z, if_neg z]
    have g7 : ν' 63 1 = μ 0 7 + 1 := by rw [← hν, mst_same]
    have g' : ∀ p q, p ≠ 63 → p ≠ 64 → ν' p q = ν p q := fun p q h h2 => by rw [← hν, mst_pl h, mst_pl h2]
    have e1 : μ' 1 = μ 1 := by funext q; exact f' _ _ (by decide) (by decide)
    have h44 : μ' 4 = μ 4 := by funext q; exact f' _ _ (by decide) (by decide)
    have kk : ∀ i, hr μ' i = hr μ i := fun i => by funext j; unfold hr; exact f' _ _ (by decide) (by decide)
    refine ⟨_, μ', ν', rfl, rfl, ⟨by rw [e1]; exact Wf_mono m1 (by omega), by rw [f0 _ (by decide)]; exact m2, fun i hi => ?_, ?_, by rw [f7]; omega, fun i hi => ?_, LD_fr m7 e1 (fun q => f' _ _ (by decide) (by decide)) (fun q => f' _ _ (by decide) (by decide)) (f0 _ (by decide)) (f0 _ (by decide)) (f' _ _ (by decide) (by decide))⟩, ⟨?_, ?_, ?_, ?_, fun i hi => ?_, ?_, fun hh => ?_, ?_, fun i hi => ?_⟩⟩
    · rw [f0 _ (by decide)] at hi; rw [kk]; exact Wf_mono (m3 i hi) (by omega)
    · rw [f0 _ (by decide), h44]; exact m4.imp id (fun z => ⟨z.1, Wf_mono z.2 (by omega)⟩)
    · rw [f7] at hi
      rw [f5]
      split
      · exact hc
      · exact m6 i (by omega)
    · rw [e1]; exact SRel_fr h1 (fun p q _ _ => g' p q (by omega) (by omega))
    · obtain ⟨r, k, L⟩ := h2
      exact ⟨r, k, LK_fr L (fun q => g' _ _ (by omega) (by omega)) (fun q => g' _ _ (by omega) (by omega)) (fun q => g' _ _ (by omega) (by omega)) (fun q => g' _ _ (by omega) (by omega)) (fun q => g' _ _ (by omega) (by omega))⟩
    · rw [g' _ _ (by omega) (by omega)]; exact h3
    · rw [g' _ _ (by omega) (by omega), f0 _ (by decide)]; exact h4
    · rw [f0 _ (by decide)] at hi ⊢
      have hs := h5 i hi
      unfold slot at hs ⊢
      rw [g' 24 1 (by omega) (by omega), kk]
      exact SRel_fr hs (fun p q _ _ => g' p q (by omega) (by omega))
    · rw [g' _ _ (by omega) (by omega), f0 _ (by decide)]; exact h6
    · rw [f0 _ (by decide)] at hh
      rw [h44]
      exact SRel_fr (h7 hh) (fun p q _ _ => g' p q (by omega) (by omega))
    · rw [g7, f7]
    · rw [f7] at hi
      rw [g5, f5]
      split
      · rfl
      · exact h9 i (by omega)
/-! laying, learning -/
def rf (a : Nat → Int) : Nat → Int := fun j => a (35 + j)
def rn (a : Nat → Int) : Nat := (a 34).toNat
def sp (a : Nat → Int) : Int → Prop := spn (rf a) (-5) (rn a)
noncomputable def sr (a : Nat → Int) : Int := rk (rf a) (-5) (rn a)
theorem sp_sg (a : Nat → Int) : Sg (sp a) := spn_sg _ _ _
/-- only what is laid differs -/
def KP (μ μ' : Mem) : Prop := (∀ p q, p ≠ 0 → p ≠ 6 → p ≠ 7 → p ≠ 8 → p ≠ 9 → μ' p q = μ p q) ∧ ∀ q, q ≠ 8 → q ≠ 9 → μ' 0 q = μ 0 q
theorem KP_rf (μ : Mem) : KP μ μ := ⟨fun _ _ _ _ _ _ _ => rfl, fun _ _ _ => rfl⟩
theorem KP_tr {a b c : Mem} (h : KP a b) (g : KP b c) : KP a c := ⟨fun p q h0 h6 h7 h8 h9 => by rw [g.1 p q h0 h6 h7 h8 h9, h.1 p q h0 h6 h7 h8 h9], fun q h8 h9 => by rw [g.2 q h8 h9, h.2 q h8 h9]⟩
theorem KP_1 {μ μ' : Mem} (h : KP μ μ') : μ' 1 = μ 1 := by funext q; exact h.1 _ _ (by decide) (by decide) (by decide) (by decide) (by decide)
theorem KP_MI {μ μ' : Mem} {t : Int} (h : KP μ μ') (M : MI μ t) (L : LD μ') : MI μ' t := by
  obtain ⟨m1, m2, m3, m4, m5, m6, m7⟩ := M
  have kk : ∀ i, hr μ' i = hr μ i := fun i => by funext j; unfold hr; exact h.1 _ _ (by decide) (by decide) (by decide) (by decide) (by decide)
  have h44 : μ' 4 = μ 4 := by funext q; exact h.1 _ _ (by decide) (by decide) (by decide) (by decide) (by decide)
  have h0 := h.2
  refine ⟨by rw [KP_1 h]; exact m1, by rw [h0 _ (by decide) (by decide)]; exact m2, fun i hi => ?_, by rw [h0 _ (by decide) (by decide), h44]; exact m4, by rw [h0 _ (by decide) (by decide)]; exact m5, fun i hi => ?_, L⟩
  · rw [h0 _ (by decide) (by decide)] at hi; rw [kk]; exact m3 i hi
  · rw [h0 _ (by decide) (by decide)] at hi; rw [h.1 _ _ (by decide) (by decide) (by decide) (by decide) (by decide)]; exact m6 i hi
theorem KP_XI {ν ν' μ μ' : Mem} (h : KP μ μ') (X : XI ν μ) (F : XF ν ν') (S : ∀ p q, 10 ≤ p → p ≤ 16 → ν' p q = ν p q) (T : TI ν') : XI ν' μ' :=
  stay_XI X F (by rw [KP_1 h]; exact SRel_fr X.1 (fun p q h1 h2 => S p q h1 (by omega))) T h.2 (fun q => h.1 _ _ (by decide) (by decide) (by decide) (by decide) (by decide)) (fun q => h.1 _ _ (by decide) (by decide) (by decide) (by decide) (by decide)) (fun q => h.1 _ _ (by decide) (by decide) (by decide) (by decide) (by decide))
theorem rul_M {μ : Mem} {t : Int} (w : Wf (μ 1) t) : rulM μ (rf (μ 1)) (rn (μ 1)) := ⟨by have := w.2.2.2.2.1; unfold rn; omega, by have := w.2.2.2.2.1; unfold rn; omega, fun j hj => ⟨rfl, w.2.2.2.2.2.1 j (by unfold rn at hj; omega)⟩⟩
theorem rul_X {a : Nat → Int} {ν : Mem} {t : Int} (w : Wf a t) (h : SRel a ν 10) : rulX ν (rf a) (rn a) := ⟨by have := w.2.2.2.2.1; rw [h.2.2.1]; unfold rn; omega, by have := w.2.2.2.2.1; unfold rn; omega, fun j hj => ⟨h.2.2.2.2.2.1 j (by unfold rn at hj; omega), w.2.2.2.2.2.1 j (by unfold rn at hj; omega)⟩⟩
theorem lay_MI {μ : Mem} {t : Int} (M : MI μ t) : ∃ μ', mm_lay μ = some μ' ∧ MI μ' t ∧ KP μ μ' ∧ μ' 0 8 = 1 ∧ laidM μ' (rf (μ 1)) (rn (μ 1)) := by
  obtain ⟨μ', e, f, f0, h8, L⟩ := lay_eq (rul_M M.1) M.2.2.2.2.2.2.1
  have K : KP μ μ' := ⟨f, f0⟩
  refine ⟨μ', e, KP_MI K M ⟨Or.inr ⟨h8, ?_⟩, by rw [K.1 _ _ (by decide) (by decide) (by decide) (by decide) (by decide)]; exact M.2.2.2.2.2.2.2⟩, K, h8, L⟩
  rw [KP_1 K]
  exact L
theorem taste_MI {μ : Mem} {t m : Int} (M : MI μ t) (hm : isM m) : ∃ μ', mm_taste m μ = some (tau (sp (μ 1)) m, μ') ∧ MI μ' t ∧ KP μ μ' ∧ μ' 0 8 = 1 ∧ laidM μ' (rf (μ 1)) (rn (μ 1)) := by
  obtain ⟨μ', e, M', K, h8, L⟩ := lay_MI M
  refine ⟨μ', ?_, M', K, h8, L⟩
  rw [mm_taste, e, sb, aget_eq hm.1 (by omega), sb, L.2.1 m hm]
  rfl
theorem strength_MI {μ : Mem} {t : Int} (M : MI μ t) : ∃ μ', mm_strength μ = some (sr (μ 1), μ') ∧ MI μ' t ∧ KP μ μ' := by
  obtain ⟨μ', e, M', K, h8, L⟩ := lay_MI M
  exact ⟨μ', by rw [mm_strength, e, sb, L.1]; rfl, M', K⟩
theorem learn_a {a : Nat → Int} {ν : Mem} {t : Int} (w : Wf a t) (h : SRel a ν 10) (T : TI ν) : ∃ ν', xt_learn ν = some ν' ∧ LK ν' (rf a) (rn a) ∧ (∀ p q, p ≠ 3 → p ≠ 4 → p ≠ 5 → p ≠ 7 → ν' p q = ν p q) := by
  obtain ⟨ν', e, f, L⟩ := learn_eq T (rul_X w h)
  exact ⟨ν', e, L, f⟩
theorem l_XF {ν ν' : Mem} (f : ∀ p q, p ≠ 3 → p ≠ 4 → p ≠ 5 → p ≠ 7 → ν' p q = ν p q) : XF ν ν' := ⟨fun q => f _ _ (by omega) (by omega) (by omega) (by omega), fun p q h1 h2 => f _ _ (by omega) (by omega) (by omega) (by omega), f _ _ (by omega) (by omega) (by omega) (by omega), fun q => f _ _ (by omega) (by omega) (by omega) (by omega)⟩
theorem strength_X {a : Nat → Int} {ν : Mem} {t : Int} (w : Wf a t) (h : SRel a ν 10) (T : TI ν) : ∃ ν', xx_strength ν = some (sr a, ν') ∧ TI ν' ∧ (∀ p q, p ≠ 3 → p ≠ 4 → p ≠ 5 → p ≠ 7 → ν' p q = ν p q) := by
  obtain ⟨ν', e, L, f⟩ := learn_a w h T
  exact ⟨ν', by rw [xx_strength, e, sb, L.2.2.1]; rfl, ⟨_, _, L⟩, f⟩
theorem sr_nn (a : Nat → Int) : 0 ≤ sr a := (rk_b _ _ _).1
theorem sim_drop (x : Int) : SIM (mm_drop x) (xx_drop x) := by
  intro μ ν t h0 ht M X
  rw [mm_drop, xx_drop]
  have e2 : ∀ μ1 : Mem, μ1 1 = μ 1 → mm_drops x μ1 = some ((sDrop (μ 1) x).1, pl μ1 (sDrop (μ 1) x).2) := fun μ1 h1 => by
    have := mdrops_eq μ1 (a := μ 1) (x := x) M.1
    rwa [pl_of h1] at this
  have w := Wf_sDrop (x := x) M.1
  by_cases c : 0 ≤ x ∧ x < μ 1 34
  · have hd : sDrop (μ 1) x = (0, drr (μ 1) x) := by rw [sDrop, if_pos c]
    rw [hd] at e2 w
    obtain ⟨μ1, μ', ν1, ν2, ν', e1, h1, e3, e4, e5, e6, M', X', ha, _⟩ := ord_pair (u := t + 1500000) (a' := drr (μ 1) x) (v := 0) (v' := sr (drr (μ 1) x)) (Fx := fun τ => (xa_dropRule x τ).bind fun p => xx_strength p.2) M X
      (fun τ hτ T => by
        obtain ⟨τ', e, r, f⟩ := xdrop_eq (x := x) hτ M.1
        rw [hd] at r
        obtain ⟨τ2, e', T2, f2⟩ := strength_X w r (TI_fr f T)
        refine ⟨τ2, by rw [e, sb, e'], SRel_fr r (fun p q h1 h2 => f2 p q (by omega) (by omega) (by omega) (by omega)), XF_tr (fr_XF f) (l_XF f2), T2⟩) ⟨fun _ => sr_nn _, fun _ => by decide⟩ (fun h => absurd h (by decide)) (Wf_mono w (by omega)) (by omega)
    have ha := ha (by decide)
    obtain ⟨μ2, s1, s2, s3⟩ := strength_MI M'
    rw [ha] at s1
    rw [e1, sb, e2 μ1 h1, sb, e3, sb, if_pos (by show (0 : Int) ≤ 0; decide), s1, sb, mm_drop_24, e4, sb]
    cases hp : xa_dropRule x ν1 with
    | none => rw [hp] at e5; cases e5
    | some p =>
      obtain ⟨τ', e, r, f⟩ := xdrop_eq (x := x) (μ := ν1) (a := μ 1) (t := t) (by
        obtain ⟨ν0, q1, q2, q3, q4⟩ := prep_eq X M
        rw [e4] at q1
        rw [Option.some.inj q1]; exact q2.1) M.1
      have hp2 := hp.symm.trans e
      rw [if_pos c] at hp2
      have hp3 := Option.some.inj hp2
      rw [hp, sb] at e5
      rw [sb, bnd_eq, hp3, if_pos (by show 0 ≤ μ 1 34 - 1; omega)]
      rw [hp3] at e5
      rw [e5, sb, xx_drop_33, e6, sb]
      exact ⟨_, _, _, rfl, rfl, s2, KP_XI s3 X' (XF_rf _) (fun _ _ _ _ => rfl) X'.2.1⟩
  · have hd : sDrop (μ 1) x = (-1, μ 1) := by rw [sDrop, if_neg c]
    rw [hd] at e2 w
    obtain ⟨μ1, μ', ν1, ν2, ν', e1, h1, e3, e4, e5, e6, M', X', ha, _⟩ := ord_pair (u := t + 1500000) (a' := μ 1) (v := -1) (v' := -1) (Fx := xa_dropRule x) M X
      (fun τ hτ T => by
        obtain ⟨τ', e, r, f⟩ := xdrop_eq (x := x) hτ M.1
        rw [hd] at r
        rw [if_neg c] at e
        exact ⟨τ', e, r, fr_XF f, TI_fr f T⟩) Iff.rfl (fun _ => rfl) (Wf_mono w (by omega)) (by omega)
    rw [e1, sb, e2 μ1 h1, sb, e3, sb, if_neg (by show ¬ (0 : Int) ≤ -1; decide), mm_drop_24, e4, sb, e5, sb, bnd_eq, if_neg (by show ¬ (0 : Int) ≤ -1; decide), xx_drop_33, e6, sb]
    exact ⟨_, _, _, rfl, rfl, M', X'⟩
