/-! all orders of a text, in both -/
theorem do_good {tx : Nat → Int} {len : Nat} {μ ν : Mem} {t : Int} (h0 : 0 ≤ t) (ht : t ≤ 900000000) (M : MI μ t) (X : XI ν μ) (T : RT tx len μ) (Y : XT tx len ν) (G : (gP tx len 61 0).1 = true) : ∃ r μ' ν', ((mm_putAside μ).bind fun μ3 => (mm_go 1 μ3).bind fun p4 => (mm_act p4.1 p4.2).bind fun p5 => some (p5.1, p5.2)) = some (r, μ') ∧ ((xh_prepare ν).bind fun μ3 => (xa_performAll μ3).bind fun p4 => bnd (p4.1) fun v5 => if 0 ≤ v5 then xx_doAll_55 v5 p4.2 else (xh_takeBack p4.2).bind fun μ7 => xx_doAll_55 v5 μ7) = some (r, ν') ∧ MI μ' (t + 1500000) ∧ XI ν' μ' := by
  have hl := T.2.1
  obtain ⟨μ1, e1, r1, f1⟩ := aside_eq μ
  have h1 : μ1 1 = μ 1 := by funext j; exact f1 _ _ (by decide)
  have F1 : PF μ1 (mst (mst μ1 0 14 0) 0 15 0) := PF_15 (PF_14 (PF_rf μ1) _) _
  have T1 : RT tx len μ1 := ⟨by rw [f1 _ _ (by decide)]; exact T.1, T.2.1, fun i hi => by rw [f1 5 i (by decide)]; exact T.2.2 i hi⟩
  obtain ⟨μ4, e4, k4, F4, w4⟩ := mgo1_lp (tx := tx) (len := len) 61 0 FU 0 (mst (mst μ1 0 14 0) 0 15 0) (μ 1) t (by omega) (by omega) (by have := FU_ge; omega) (by omega) (by omega) hl M.1 h0 (by omega) (by funext q; rw [mst_pl (by decide), mst_pl (by decide), h1]) (RT_fr T1 F1) ⟨by rw [mst_ix (by decide), mst_same]; rfl, mst_same _ _ _ _⟩ G
  have F4 : PG μ1 μ4 := PG_tr (PF_PG F1) F4
  have w4 : Wf (dG tx len 61 0 0 (μ 1)).2 (t + 1500000) := Wf_mono w4 (by omega)
  have hgo : mm_go 1 μ1 = some ((dG tx len 61 0 0 (μ 1)).1, μ4) := by rw [mm_go, bnd_eq, bnd_eq]; exact e4
  -- the memory as if only the reading fields had changed
  obtain ⟨μb, hb⟩ : ∃ μb : Mem, μb = fun p q => if p = 0 then μ4 0 q else μ p q := ⟨_, rfl⟩
  have b0 : ∀ q, μb 0 q = μ4 0 q := fun q => by rw [hb]; exact if_pos rfl
  have bn : ∀ p q, p ≠ 0 → μb p q = μ p q := fun p q h => by rw [hb]; exact if_neg h
  have Fb : PF μ μb := fun p q z => by
    by_cases c : p = 0
    · subst c; rw [b0, F4 0 q (by decide) z, f1 _ _ (by decide)]
    · exact bn p q c
  have Mb := MI_PF M Fb
  have Xb := XI_PF X Fb (XP_rf ν)
  have b1 : μb 1 = μ 1 := by funext j; exact bn _ _ (by decide)
  have a2 : ∀ q, q < 60 → μ4 2 q = μb 1 q := fun q hq => by rw [F4 2 q (by decide) (Or.inl (by decide)), r1 q hq, b1]
  have ao : ∀ p q, p ≠ 0 → p ≠ 1 → p ≠ 2 → μ4 p q = μb p q := fun p q h0 h1 h2 => by rw [F4 p q h1 (Or.inl h0), f1 p q h2, bn p q h0]
  -- the class
  obtain ⟨ν1, e5, X1, row1, g1⟩ := prep_eq Xb Mb
  have Y1 : XT tx len ν1 := ⟨by rw [g1 _ _ (by omega)]; exact Y.1, Y.2.1, fun i hi => by rw [g1 64 i (by omega)]; exact Y.2.2 i hi⟩
  have f2 : XP ν1 (mst ν1 63 2 0) := XP_2 (XP_rf ν1) _
  have S1 : SRel (μ 1) ν1 10 := by rw [← b1]; exact X1.1
  obtain ⟨ν2, e6, S2, F2, J2⟩ := xpa_lp (tx := tx) (len := len) 61 0 FU 0 (mst ν1 63 2 0) (μ 1) t (by omega) (by omega) (by have := FU_ge; omega) (by omega) (by omega) hl M.1 h0 (by omega) (SRel_XP f2 S1) (TI_XP f2 X1.2.1) (XT_fr Y1 f2) (mst_same _ _ _ _) G
  have F2 : XF ν1 ν2 := XF_tr (XP_XF f2) F2
  have hpa : xa_performAll ν1 = some ((dG tx len 61 0 0 (μ 1)).1, ν2) := by rw [xa_performAll, xw_start, bnd_eq, sb]; exact e6
  rw [e1, sb, hgo, sb, e5, sb, hpa, sb, bnd_eq]
  dsimp only
  generalize hv : (dG tx len 61 0 0 (μ 1)).1 = v at *
  generalize ha : (dG tx len 61 0 0 (μ 1)).2 = a' at *
  by_cases c : 0 ≤ v
  · have hN : ∃ N : Nat, N ≤ 4 ∧ μ4 0 3 = (N : Int) := ⟨(μb 0 3).toNat, by have := Mb.2.1; omega, by rw [← b0]; have := Mb.2.1; omega⟩
    obtain ⟨N, hN1, hN2⟩ := hN
    obtain ⟨μ', e3, P⟩ := act_pos c hN1 hN2
    have P' : PU μb μ' (μb 1) a' := by
      obtain ⟨p1, p2, ⟨N, K, k3, kN, n3, n3', q1, q2⟩, p4, p5⟩ := P
      refine ⟨by rw [p1, k4], p2, ⟨N, K, k3, kN, by rw [b0]; exact n3, n3', fun j hj => by rw [q1 j hj, a2 j hj], fun i hi j hj => ?_⟩, fun p q h0 h1 h2 h3 => by rw [p4 p q h0 h1 h2 h3, ao p q h0 h1 h2], fun q h3 h8 => by rw [p5 q h3 h8, b0]⟩
      rw [q2 i hi j hj]
      unfold hr
      exact ao _ _ (by decide) (by decide) (by decide)
    obtain ⟨ν', e7, X'⟩ := push_XI X1 Mb row1 F2 S2 J2 P'
    rw [e3, sb, if_pos c, xx_doAll_55, xx_ended, if_neg (by omega), e7, sb, xx_ended_11, sb]
    exact ⟨v, μ', ν', rfl, rfl, PU_MI Mb P' (by omega) w4, X'⟩
  · obtain ⟨μ', e3, r3, f8, f3, f0⟩ := act_neg (μ := μ4) (x := v) (by omega)
    have h241 : ν2 24 1 = ν1 24 1 := F2.2.1 _ _ (by omega) (by omega)
    have h5 : 0 ≤ ν1 24 1 ∧ ν1 24 1 < 5 := X1.2.2.1
    obtain ⟨ν3, e7, cc, g3, _⟩ := xcopy_eq (t := 10) (o := 26 + 7 * (ν2 24 1).toNat) (by omega) ν2
    have rr : SRel (μb 1) ν2 (26 + 7 * (ν2 24 1).toNat) := by
      rw [h241]
      exact SRel_fr row1 (fun p q p1 p2 => F2.2.1 p q (by omega) (by omega))
    have S3 := cc _ (wf3 Mb.1) rr
    have fr3 : fr ν2 ν3 := fun p q hp => g3 p q (by omega)
    have tb : xh_takeBack ν2 = some ν3 := by rw [xh_takeBack, if_pos (by omega)]; exact e7
    have o1 : ∀ j, j < 60 → μ' 1 j = μb 1 j := fun j hj => by rw [r3 j hj, a2 j hj]
    have o0 : ∀ q, q ≠ 8 → μ' 0 q = μb 0 q := fun q h => by rw [f0 q h, b0]
    have o : ∀ p q, p ≠ 0 → p ≠ 1 → p ≠ 2 → μ' p q = μb p q := fun p q h0 h1 h2 => by rw [f3 p q h0 h1, ao p q h0 h1 h2]
    rw [e3, sb, if_neg c, tb, sb, xx_doAll_55, end_neg (by omega), sb]
    refine ⟨v, μ', ν3, rfl, rfl, ?_, stay_XI X1 (XF_tr F2 (fr_XF fr3)) (SRel_cong S3 o1 (wf3 Mb.1)) (TI_fr fr3 J2) (fun q h _ => o0 q h) (fun q => o _ _ (by decide) (by decide) (by decide)) (fun q => o _ _ (by decide) (by decide) (by decide)) (fun q => o _ _ (by decide) (by decide) (by decide))⟩
    obtain ⟨m1, m2, m3, m4, m5, m6, m7⟩ := Mb
    have hk : ∀ i, hr μ' i = hr μb i := fun i => by funext j; unfold hr; exact o _ _ (by decide) (by decide) (by decide)
    have h44 : μ' 4 = μb 4 := by funext j; exact o _ _ (by decide) (by decide) (by decide)
    refine ⟨Wf_cong (Wf_mono m1 (by omega)) o1, by rw [o0 _ (by decide)]; exact m2, fun i hi => ?_, ?_, by rw [o0 _ (by decide)]; exact m5, fun i hi => ?_, Or.inl f8, by rw [o _ _ (by decide) (by decide) (by decide)]; exact m7.2⟩
    · rw [o0 _ (by decide)] at hi; rw [hk]; exact Wf_mono (m3 i hi) (by omega)
    · rw [o0 _ (by decide), h44]; exact m4.imp id (fun z => ⟨z.1, Wf_mono z.2 (by omega)⟩)
    · rw [o0 _ (by decide)] at hi; rw [o _ _ (by decide) (by decide) (by decide)]; exact m6 i hi
theorem sim_doAll : SIM mm_doAll xx_doAll := by
  intro μ ν t h0 ht M X
  have T := RT_of M
  have Y := XT_of M X
  have hl := T.2.1
  have f0 : PF μ (mst (mst μ 0 14 0) 0 15 0) := PF_15 (PF_14 (PF_rf μ) _) _
  obtain ⟨v, μ', e1, R1, f1⟩ := mgo0_lp (tx := μ 5) (len := (μ 0 7).toNat) 61 0 FU 0 (mst (mst μ 0 14 0) 0 15 0) (by omega) (by omega) (by have := FU_ge; omega) (by omega) (by omega) (fun j hj => by rw [mst_pl (by decide), mst_pl (by decide)]; exact M.1.1 j hj) (RT_fr T f0) ⟨by rw [mst_ix (by decide), mst_same]; rfl, mst_same _ _ _ _⟩
  have g0 : XP ν (mst ν 63 2 0) := XP_2 (XP_rf ν) _
  obtain ⟨ν', e2, f2⟩ := xff_lp (tx := μ 5) (len := (μ 0 7).toNat) 61 0 FU 0 (mst ν 63 2 0) (by omega) (by omega) (by have := FU_ge; omega) (by omega) (by omega) (XT_fr Y g0) (mst_same _ _ _ _)
  have F := PF_tr f0 f1
  have G := XP_tr g0 f2
  have M1 := MI_PF M F
  have X1 := XI_PF X F G
  have hgo : mm_go 0 μ = some (v, μ') := by rw [mm_go, bnd_eq, bnd_eq]; exact e1
  have hff : xw_findFault ν = some (if (gP (μ 5) (μ 0 7).toNat 61 0).1 = true then -5 else (((gP (μ 5) (μ 0 7).toNat 61 0).2 : Nat) : Int), ν') := by rw [xw_findFault, xw_start, bnd_eq, sb]; exact e2
  rw [mm_doAll, xx_doAll, hgo, sb, bnd_eq, hff, sb, bnd_eq]
  dsimp only
  cases hg : (gP (μ 5) (μ 0 7).toNat 61 0).1 with
  | true =>
    rw [hg] at R1
    have r2 : μ' 0 15 = 0 := R1.2
    rw [if_pos r2, if_pos rfl, if_pos (show (-5 : Int) < 0 by decide)]
    exact do_good h0 ht M1 X1 (RT_fr T F) (XT_fr Y G) hg
  | false =>
    rw [hg] at R1
    have r2 : μ' 0 15 = 1 := R1.2
    have r1 : μ' 0 14 = (((gP (μ 5) (μ 0 7).toNat 61 0).2 : Nat) : Int) := R1.1
    rw [if_neg (show ¬ μ' 0 15 = 0 by omega), if_neg (show ¬ (false = true) by decide), if_neg (show ¬ (((gP (μ 5) (μ 0 7).toNat 61 0).2 : Nat) : Int) < 0 by omega), r1]
    exact ⟨_, μ', ν', rfl, rfl, MI_mono M1 (by omega), X1⟩
