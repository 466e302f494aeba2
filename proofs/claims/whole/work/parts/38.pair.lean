/-! an order, in both -/
theorem pl_of {σ : Mem} {a : Nat → Int} (h : σ 1 = a) : pl σ a = σ := by rw [← h, pl_self]
theorem MI_aside {μ μ1 : Mem} {a' : Nat → Int} {t u : Int} (M : MI μ t) (f : ∀ p q, p ≠ 2 → μ1 p q = μ p q) {μ' : Mem} (e1 : ∀ j, j < 60 → μ' 1 j = μ1 2 j) (r : ∀ q, q < 60 → μ1 2 q = μ 1 q) (e0 : μ' 0 8 = 0) (g : ∀ p q, p ≠ 0 → p ≠ 1 → μ' p q = pl μ1 a' p q) (g0 : ∀ q, q ≠ 8 → μ' 0 q = pl μ1 a' 0 q) (htu : t ≤ u) : MI μ' u ∧ (∀ j, j < 60 → μ' 1 j = μ 1 j) ∧ (∀ q, q ≠ 8 → q ≠ 9 → μ' 0 q = μ 0 q) ∧ (∀ q, μ' 3 q = μ 3 q) ∧ (∀ q, μ' 4 q = μ 4 q) ∧ ∀ q, μ' 5 q = μ 5 q := by
  obtain ⟨m1, m2, m3, m4, m5, m6, m7⟩ := M
  have o : ∀ p q, p ≠ 0 → p ≠ 1 → p ≠ 2 → μ' p q = μ p q := fun p q h0 h1 h2 => by rw [g p q h0 h1, pl_ne h1, f p q h2]
  have o0 : ∀ q, q ≠ 8 → μ' 0 q = μ 0 q := fun q h => by rw [g0 q h, pl_ne (by decide), f _ _ (by decide)]
  have o1 : ∀ j, j < 60 → μ' 1 j = μ 1 j := fun j hj => by rw [e1 j hj, r j hj]
  have hk : ∀ i, hr μ' i = hr μ i := fun i => by funext j; unfold hr; exact o _ _ (by decide) (by decide) (by decide)
  have h44 : μ' 4 = μ 4 := by funext j; exact o _ _ (by decide) (by decide) (by decide)
  refine ⟨⟨Wf_cong (Wf_mono m1 htu) o1, by rw [o0 _ (by decide)]; exact m2, fun i hi => ?_, ?_, by rw [o0 _ (by decide)]; exact m5, fun i hi => ?_, Or.inl e0, by rw [o _ _ (by decide) (by decide) (by decide)]; exact m7.2⟩, o1, fun q h _ => o0 q h, fun q => o _ _ (by decide) (by decide) (by decide), fun q => o _ _ (by decide) (by decide) (by decide), fun q => o _ _ (by decide) (by decide) (by decide)⟩
  · rw [o0 _ (by decide)] at hi; rw [hk]; exact Wf_mono (m3 i hi) htu
  · rw [o0 _ (by decide), h44]; exact m4.imp id (fun z => ⟨z.1, Wf_mono z.2 htu⟩)
  · rw [o0 _ (by decide)] at hi; rw [o _ _ (by decide) (by decide) (by decide)]; exact m6 i hi
theorem PU_aside {μ μ1 μ' : Mem} {a' : Nat → Int} (f : ∀ p q, p ≠ 2 → μ1 p q = μ p q) (r : ∀ q, q < 60 → μ1 2 q = μ 1 q) (P : PU (pl μ1 a') μ' ((pl μ1 a') 2) ((pl μ1 a') 1)) : PU μ μ' (μ 1) a' := by
  obtain ⟨p1, p2, ⟨N, K, k3, kN, n3, n3', q1, q2⟩, p4, p5⟩ := P
  refine ⟨by rw [p1, pl_1], p2, ⟨N, K, k3, kN, ?_, n3', fun j hj => ?_, fun i hi j hj => ?_⟩, fun p q h0 h1 h2 h3 => ?_, fun q h3 h8 => ?_⟩
  · rw [← n3, pl_ne (by decide), f _ _ (by decide)]
  · rw [q1 j hj, pl_ne (by decide), r j hj]
  · rw [q2 i hi j hj]; unfold hr; rw [pl_ne (by decide), f _ _ (by decide)]
  · rw [p4 p q h0 h1 h2 h3, pl_ne h1, f p q h2]
  · rw [p5 q h3 h8, pl_ne (by decide), f _ _ (by decide)]
theorem ord_pair2 {μ ν : Mem} {t u v v' : Int} {a' : Nat → Int} {Fx : Mem → Option (Int × Mem)} (M : MI μ t) (X : XI ν μ)
    (hx : ∀ τ : Mem, SRel (μ 1) τ 10 → TI τ → (∀ p q, (p < 26 ∨ 60 < p) → τ p q = ν p q) → ∃ τ', Fx τ = some (v', τ') ∧ SRel a' τ' 10 ∧ XF τ τ' ∧ TI τ')
    (hs : 0 ≤ v ↔ 0 ≤ v') (hn : v < 0 → a' = μ 1) (w : Wf a' u) (htu : t ≤ u) :
    ∃ μ1 μ' ν1 ν2 ν', mm_putAside μ = some μ1 ∧ μ1 1 = μ 1 ∧ mm_act v (pl μ1 a') = some (v, μ') ∧ xh_prepare ν = some ν1 ∧ Fx ν1 = some (v', ν2) ∧ xx_ended v' ν2 = some (v', ν') ∧ MI μ' u ∧ XI ν' μ' ∧ (0 ≤ v → μ' 1 = a') ∧ (∀ q, ν' 3 q = ν2 3 q) := by
  obtain ⟨μ1, e1, r1, f1⟩ := aside_eq μ
  have h1 : μ1 1 = μ 1 := by funext j; exact f1 _ _ (by decide)
  obtain ⟨ν1, e4, X1, row1, g1⟩ := prep_eq X M
  obtain ⟨ν2, e5, S2, F2, T2⟩ := hx ν1 X1.1 X1.2.1 g1
  by_cases c : 0 ≤ v
  · have hN : ∃ N : Nat, N ≤ 4 ∧ (pl μ1 a') 0 3 = (N : Int) := ⟨(μ 0 3).toNat, by have := M.2.1; omega, by rw [pl_ne (by decide), f1 _ _ (by decide)]; have := M.2.1; omega⟩
    obtain ⟨N, hN1, hN2⟩ := hN
    obtain ⟨μ', e3, P⟩ := act_pos c hN1 hN2
    have P' := PU_aside f1 r1 P
    obtain ⟨ν', e6, X'⟩ := push_XI X1 M row1 F2 S2 T2 P'
    refine ⟨μ1, μ', ν1, ν2, ν', e1, h1, e3, e4, e5, ?_, PU_MI M P' htu w, X', fun _ => P'.1, fun q => ?_⟩
    · rw [xx_ended, if_neg (by omega), e6, sb, xx_ended_11]
    · rw [xh_record, bnd_eq, bnd_eq, bnd_eq] at e6
      rw [← Option.some.inj e6, mst_pl (by decide), mst_pl (by decide)]
  · obtain ⟨μ', e3, r3, f8, f3, f0⟩ := act_neg (μ := pl μ1 a') (x := v) (by omega)
    obtain ⟨M', o1, o0, o3, o4, o5⟩ := MI_aside (μ' := μ') (a' := a') M f1 (fun j hj => by rw [r3 j hj, pl_ne (by decide)]) r1 f8 f3 f0 htu
    refine ⟨μ1, μ', ν1, ν2, ν2, e1, h1, e3, e4, e5, ?_, M', ?_, fun h => absurd h c, fun _ => rfl⟩
    · rw [xx_ended, if_pos (by omega), xx_ended_11]
    · rw [hn (by omega)] at S2
      exact stay_XI X1 F2 (SRel_cong S2 o1 (wf3 M.1)) T2 o0 o3 o4 o5
theorem ord_pair {μ ν : Mem} {t u v v' : Int} {a' : Nat → Int} {Fx : Mem → Option (Int × Mem)} (M : MI μ t) (X : XI ν μ)
    (hx : ∀ τ : Mem, SRel (μ 1) τ 10 → TI τ → ∃ τ', Fx τ = some (v', τ') ∧ SRel a' τ' 10 ∧ XF τ τ' ∧ TI τ')
    (hs : 0 ≤ v ↔ 0 ≤ v') (hn : v < 0 → a' = μ 1) (w : Wf a' u) (htu : t ≤ u) :
    ∃ μ1 μ' ν1 ν2 ν', mm_putAside μ = some μ1 ∧ μ1 1 = μ 1 ∧ mm_act v (pl μ1 a') = some (v, μ') ∧ xh_prepare ν = some ν1 ∧ Fx ν1 = some (v', ν2) ∧ xx_ended v' ν2 = some (v', ν') ∧ MI μ' u ∧ XI ν' μ' ∧ (0 ≤ v → μ' 1 = a') ∧ (∀ q, ν' 3 q = ν2 3 q) :=
  ord_pair2 M X (fun τ a b _ => hx τ a b) hs hn w htu
def SIM (f g : Mem → Option (Int × Mem)) : Prop := ∀ μ ν t, 0 ≤ t → t ≤ 900000000 → MI μ t → XI ν μ → ∃ r μ' ν', f μ = some (r, μ') ∧ g ν = some (r, ν') ∧ MI μ' (t + 1500000) ∧ XI ν' μ'
theorem MI_mono {μ : Mem} {t u : Int} (M : MI μ t) (h : t ≤ u) : MI μ u := by
  obtain ⟨m1, m2, m3, m4, m5, m6, m7⟩ := M
  exact ⟨Wf_mono m1 h, m2, fun i hi => Wf_mono (m3 i hi) h, m4.imp id (fun z => ⟨z.1, Wf_mono z.2 h⟩), m5, m6, m7⟩
theorem sComes_s {a : Nat → Int} {m u p : Int} (h : 0 ≤ a 33) : (sComes a m u p).1 < 0 → (sComes a m u p).2 = a := by
  rw [sComes]
  split
  · intro; rfl
  · intro h2; exact absurd h2 (by dsimp only; omega)
theorem p_price (μ1 : Mem) {a : Nat → Int} (h : μ1 1 = a) (hp : okP a) {m : Int} (hm : isM m) : mm_priceOf m μ1 = some (prc a m) := by
  have := mprice_eq (μ := μ1) (by rw [h]; exact hp) hm
  rwa [h] at this
theorem end_neg {v : Int} {ν : Mem} (h : v < 0) : xx_ended v ν = some (v, ν) := by rw [xx_ended, if_pos h, xx_ended_11]
theorem sim_jar (m : Int) : SIM (mm_jar m) (xx_jar m) := by
  intro μ ν t h0 ht M X
  rw [mm_jar, xx_jar, isMix_eq, sb]
  by_cases hm : isM m
  · rw [if_pos hm, if_neg (by decide)]
    have pb := prc_b M.1.1 m
    have ub := un_b m
    obtain ⟨μ1, μ', ν1, ν2, ν', e1, h1, e3, e4, e5, e6, M', X', _, _⟩ := ord_pair (u := t + 1500000) (a' := (sComes (μ 1) m (un m) (prc (μ 1) m)).2) (v := (sComes (μ 1) m (un m) (prc (μ 1) m)).1) (v' := (sComes (μ 1) m (un m) (prc (μ 1) m)).1) (Fx := xa_bring m) M X
      (fun τ hτ T => by
        obtain ⟨τ', e, r, f⟩ := xbring_eq hτ M.1 h0 (by omega) hm
        exact ⟨τ', e, r, frb_XF f, TI_frb f T⟩) Iff.rfl (sComes_s (by have := M.1.2.2.2.1; omega)) (Wf_mono (Wf_sComes M.1 h0 hm (by omega) (by omega)) (by omega)) (by omega)
    have e2 := mcomes_eq μ1 (a := μ 1) (mix := m) (u := un m) (p := prc (μ 1) m) M.1 (by omega) hm (by omega) (by omega)
    rw [pl_of h1] at e2
    rw [e1, sb, units_eq hm, sb, p_price μ1 h1 M.1.1 hm, sb, e2, sb, e3, sb, e4, sb, e5, sb, e6, sb]
    exact ⟨_, _, _, rfl, rfl, M', X'⟩
  · rw [if_neg hm, if_pos rfl]
    obtain ⟨ν1, e4, X1, row1, g1⟩ := prep_eq X M
    rw [e4, sb, xbring_no hm, sb, end_neg (show (-2 : Int) < 0 by decide), sb]
    exact ⟨_, _, _, rfl, rfl, MI_mono M (by omega), X1⟩
theorem un_madd (k : Nat) : ∀ a b : Int, unk k (madd k a b) ≤ unk k a + unk k b := by
  induction k with
  | zero => intro a b; simp [unk]
  | succ k ih =>
    intro a b
    have := ih (a / 3) (b / 3)
    rw [unk, madd_mod, madd_div, unk, unk]
    omega
theorem un_mx (a b : Int) : un (mx a b) ≤ un a + un b := by rw [un_def, un_def, un_def, mx_def]; exact un_madd 8 a b
theorem sPours_s {a : Nat → Int} {x y : Int} (h8 : 0 ≤ a 8) : ((sPours a x y).1 < 0 → (sPours a x y).2 = a) := by
  rw [sPours]
  split
  · intro; rfl
  · split
    · intro; rfl
    · split
      · intro; rfl
      · intro h; exfalso
        have u1 := un_b (mixA a (fnd a x))
        have := un_mx (mixA a (fnd a x)) (mixA a (fnd a y))
        dsimp only at h
        omega
theorem sMore_s {a : Nat → Int} {x : Int} : (sMore a x).1 < 0 → (sMore a x).2 = a := by
  rw [sMore]
  split
  · intro; rfl
  · split
    · intro; rfl
    · intro h; exfalso
      have := (mx_isM (mixA a (fnd a x)) (mixA a (fnd a x))).1
      dsimp only at h
      omega
theorem sWant_s {a : Nat → Int} {x : Int} (h : 0 ≤ a 43) : (sWant a x).1 < 0 → (sWant a x).2 = a := by
  rw [sWant]
  split
  · intro; rfl
  · intro h; exact absurd h (by dsimp only; omega)
theorem Wf_sPours {a : Nat → Int} {t x y : Int} (w : Wf a t) (h0 : 0 ≤ t) : Wf (sPours a x y).2 (t + 1000) := by
  have h8 := w.2.1
  have b1 := fnd_b (a := a) x h8.1
  have b2 := fnd_b (a := a) y h8.1
  have t53 := ab w 53 (by omega) (by omega)
  have u1 := un_b (mixA a (fnd a x))
  have u2 := un_b (mixA a (fnd a y))
  have u3 := un_b (mx (mixA a (fnd a x)) (mixA a (fnd a y)))
  rw [sPours]
  split
  · exact Wf_mono w (by omega)
  · split
    · exact Wf_mono w (by omega)
    · split
      · exact Wf_mono w (by omega)
      · exact Wf_acu (Wf_mix (Wf_mix w (k := (fnd a x).toNat) (by omega) (v := 0) (by decide)) (k := (fnd a y).toNat) (by omega) (mx_isM _ _)) (by omega) (by omega) (by omega)
theorem Wf_sMore {a : Nat → Int} {t x : Int} (w : Wf a t) (h0 : 0 ≤ t) : Wf (sMore a x).2 (t + 5000) := by
  have h8 := w.2.1
  have b1 := fnd_b (a := a) x h8.1
  have t52 := ab w 52 (by omega) (by omega)
  have t53 := ab w 53 (by omega) (by omega)
  have t56 := ab w 56 (by omega) (by omega)
  have p1 := prc_b w.1 (mixA a (fnd a x))
  have u1 := un_b (mixA a (fnd a x))
  have u3 := un_b (mx (mixA a (fnd a x)) (mixA a (fnd a x)))
  rw [sMore]
  split
  · exact Wf_mono w (by omega)
  · split
    · exact Wf_mono w (by omega)
    · exact Wf_acu (Wf_acu (Wf_acu (Wf_mix w (k := (fnd a x).toNat) (by omega) (mx_isM _ _)) (u := t + 100) (by omega) (by omega) (by omega)) (u := t + 4000) (by omega) (by omega) (by omega)) (by omega) (by omega) (by omega)
theorem Wf_sWant {a : Nat → Int} {t m : Int} (w : Wf a t) (hm : isM m) : Wf (sWant a m).2 t := by
  have h43 := w.2.2.2.2.2.2.1
  rw [sWant]
  split
  · exact w
  · have v1 := Wf_wan w (k := (a 43).toNat) (by omega) hm
    have e43 : up a (44 + (a 43).toNat) m 43 = a 43 := up_ne (by omega)
    have := Wf_c43 v1 (by omega) (by rw [e43, up_same]; exact hm)
    rw [e43] at this
    exact this
theorem Wf_sRule {a : Nat → Int} {t m : Int} (w : Wf a t) (hm : isM m) : Wf (sRule a m).2 t := by
  have h34 := w.2.2.2.2.1
  rw [sRule]
  split
  · exact w
  · have v1 := Wf_rul w (k := (a 34).toNat) (by omega) hm
    have e34 : up a (35 + (a 34).toNat) m 34 = a 34 := up_ne (by omega)
    have := Wf_c34 v1 (by omega) (by rw [e34, up_same]; exact hm)
    rw [e34] at this
    exact this
theorem Wf_sDrop {a : Nat → Int} {t x : Int} (w : Wf a t) : Wf (sDrop a x).2 t := by
  rw [sDrop]
  split
  · exact Wf_drr w (by assumption)
  · exact w
theorem Wf_sPrice {a : Nat → Int} {t x v : Int} (w : Wf a t) : Wf (sPrice a x v).2 t := by
  rw [sPrice]
  split
  · exact w
  · split
    · exact w
    · split
      · exact w
      · exact Wf_price w (by omega) (by omega)
theorem Wf_sThrow {a : Nat → Int} {t x : Int} (w : Wf a t) (h0 : 0 ≤ t) : Wf (sThrow a x).2 (t + 100) := by
  have h8 := w.2.1
  have b1 := fnd_b (a := a) x h8.1
  have t55 := ab w 55 (by omega) (by omega)
  have u1 := un_b (mixA a (fnd a x))
  rw [sThrow]
  split
  · exact Wf_mono w (by omega)
  · exact Wf_drp (Wf_acu w (by omega) (by omega) (by omega)) (by rw [up_ne (by omega)]; omega)
theorem Wf_sSell {a : Nat → Int} {t k : Int} (w : Wf a t) (h0 : 0 ≤ t) (hk : 0 ≤ k ∧ k < a 8) : Wf (sSell a k).2 (t + 10000) := by
  have t54 := ab w 54 (by omega) (by omega)
  have t57 := ab w 57 (by omega) (by omega)
  have t58 := ab w 58 (by omega) (by omega)
  have u1 := un_b (mixA a k)
  have p1 := prc_b w.1 (mixA a k)
  rw [sSell]
  exact Wf_drp (Wf_acu (Wf_acu (Wf_acu w (u := t + 100) (by omega) (by omega) (by omega)) (u := t + 5000) (by omega) (by omega) (by omega)) (by omega) (by omega) (by omega)) (by rw [up_ne (by omega), up_ne (by omega), up_ne (by omega)]; omega)
theorem sim_pour (x y : Int) : SIM (mm_pour x y) (xx_pour x y) := by
  intro μ ν t h0 ht M X
  rw [mm_pour, xx_pour]
  obtain ⟨μ1, μ', ν1, ν2, ν', e1, h1, e3, e4, e5, e6, M', X', _, _⟩ := ord_pair (u := t + 1500000) (a' := (sPours (μ 1) x y).2) (v := (sPours (μ 1) x y).1) (v' := (sPours (μ 1) x y).1) (Fx := xa_pourInto x y) M X
    (fun τ hτ T => by
      have hJ : JT τ := by obtain ⟨r, k, L⟩ := T; exact L.1
      obtain ⟨τ', e, r, f⟩ := xpour_eq (x := x) (y := y) hJ hτ M.1 (by omega)
      exact ⟨τ', e, r, fr_XF f, TI_fr f T⟩) Iff.rfl (sPours_s M.1.2.1.1) (Wf_mono (Wf_sPours M.1 h0) (by omega)) (by omega)
  have e2 := mpours_eq μ1 (a := μ 1) (x := x) (y := y) M.1 (by omega)
  rw [pl_of h1] at e2
  rw [e1, sb, e2, sb, e3, sb, e4, sb, e5, sb, e6, sb]
  exact ⟨_, _, _, rfl, rfl, M', X'⟩
theorem sim_more (x : Int) : SIM (mm_more x) (xx_more x) := by
  intro μ ν t h0 ht M X
  rw [mm_more, xx_more]
  obtain ⟨μ1, μ', ν1, ν2, ν', e1, h1, e3, e4, e5, e6, M', X', _, _⟩ := ord_pair (u := t + 1500000) (a' := (sMore (μ 1) x).2) (v := (sMore (μ 1) x).1) (v' := (sMore (μ 1) x).1) (Fx := xa_buyAgain x) M X
    (fun τ hτ T => by
      have hJ : JT τ := by obtain ⟨r, k, L⟩ := T; exact L.1
      obtain ⟨τ', e, r, f⟩ := xbuy_eq (x := x) hJ hτ M.1 h0 (by omega)
      exact ⟨τ', e, r, fr_XF f, TI_fr f T⟩) Iff.rfl sMore_s (Wf_mono (Wf_sMore M.1 h0) (by omega)) (by omega)
  have e2 := mmore_eq μ1 (a := μ 1) (x := x) M.1 (by omega)
  rw [pl_of h1] at e2
  rw [e1, sb, e2, sb, e3, sb, e4, sb, e5, sb, e6, sb]
  exact ⟨_, _, _, rfl, rfl, M', X'⟩
theorem sim_want (m : Int) : SIM (mm_want m) (xx_want m) := by
  intro μ ν t h0 ht M X
  rw [mm_want, xx_want, isMix_eq, sb]
  by_cases hm : isM m
  · rw [if_pos hm, if_neg (by decide)]
    obtain ⟨μ1, μ', ν1, ν2, ν', e1, h1, e3, e4, e5, e6, M', X', _, _⟩ := ord_pair (u := t + 1500000) (a' := (sWant (μ 1) m).2) (v := (sWant (μ 1) m).1) (v' := (sWant (μ 1) m).1) (Fx := xa_welcome m) M X
      (fun τ hτ T => by
        obtain ⟨τ', e, r, f⟩ := xwelcome_eq hτ M.1 hm
        exact ⟨τ', e, r, fr_XF f, TI_fr f T⟩) Iff.rfl (sWant_s M.1.2.2.2.2.2.2.1.1) (Wf_mono (Wf_sWant M.1 hm) (by omega)) (by omega)
    have e2 := mwants_eq μ1 (a := μ 1) (x := m) M.1
    rw [pl_of h1] at e2
    rw [e1, sb, e2, sb, e3, sb, e4, sb, e5, sb, e6, sb]
    exact ⟨_, _, _, rfl, rfl, M', X'⟩
  · rw [if_neg hm, if_pos rfl]
    obtain ⟨ν1, e4, X1, row1, g1⟩ := prep_eq X M
    rw [e4, sb, xwelcome_no hm, sb, end_neg (show (-2 : Int) < 0 by decide), sb]
    exact ⟨_, _, _, rfl, rfl, MI_mono M (by omega), X1⟩
theorem sim_price (x v : Int) : SIM (mm_price x v) (xx_price x v) := by
  intro μ ν t h0 ht M X
  have hx : ∀ τ : Mem, SRel (μ 1) τ 10 → TI τ → ∃ τ', xa_setPrice x v τ = some ((sPrice (μ 1) x v).1, τ') ∧ SRel (sPrice (μ 1) x v).2 τ' 10 ∧ XF τ τ' ∧ TI τ' := fun τ hτ T => by
    obtain ⟨τ', e, r, f⟩ := xprice_ord (x := x) (v := v) hτ M.1
    exact ⟨τ', e, r, fr_XF f, TI_fr f T⟩
  have bad : ∀ r, r < 0 → sPrice (μ 1) x v = (r, μ 1) → ∃ r1 μ' ν', some (r, μ) = some (r1, μ') ∧ (xh_prepare ν).bind (fun μ1 => (xa_setPrice x v μ1).bind fun p2 => (xx_ended p2.1 p2.2).bind fun p3 => some (p3.1, p3.2)) = some (r1, ν') ∧ MI μ' (t + 1500000) ∧ XI ν' μ' := fun r hr hs => by
    obtain ⟨ν1, e4, X1, row1, g1⟩ := prep_eq X M
    obtain ⟨τ', e, S, F, T⟩ := hx ν1 X1.1 X1.2.1
    rw [hs] at e S
    rw [e4, sb, e, sb, end_neg hr, sb]
    exact ⟨_, _, _, rfl, rfl, MI_mono M (by omega), stay_XI X1 F S T (fun _ _ _ => rfl) (fun _ => rfl) (fun _ => rfl) (fun _ => rfl)⟩
  rw [mm_price, xx_price, in_eq, sb]
  by_cases c1 : 0 ≤ x ∧ x ≤ 7
  · rw [if_pos c1, if_neg (by decide), in_eq, sb]
    by_cases c2 : 0 ≤ v ∧ v ≤ 99
    · rw [if_pos c2, if_neg (by decide), aget_eq (by omega) (by omega), sb]
      by_cases c3 : μ 1 x.toNat = v
      · rw [if_pos c3]
        exact bad (-5) (by decide) (by rw [sPrice, if_neg (by omega), if_neg (by omega), if_pos c3])
      · rw [if_neg c3]
        have hs : sPrice (μ 1) x v = (μ 1 x.toNat, up (μ 1) x.toNat v) := by rw [sPrice, if_neg (by omega), if_neg (by omega), if_neg c3]
        rw [hs] at hx
        have hq := M.1.1 x.toNat (by omega)
        obtain ⟨μ1, μ', ν1, ν2, ν', e1, h1, e3, e4, e5, e6, M', X', _, _⟩ := ord_pair (u := t + 1500000) (a' := up (μ 1) x.toNat v) (v := μ 1 x.toNat) (v' := μ 1 x.toNat) (Fx := xa_setPrice x v) M X hx Iff.rfl (fun h => by omega) (Wf_mono (Wf_price M.1 (by omega) c2) (by omega)) (by omega)
        rw [e1, sb, aput_eq (by omega) (by omega), sb, ← pl_self μ1, h1, mst_pl1, e3, sb, e4, sb, e5, sb, e6, sb]
        exact ⟨_, _, _, rfl, rfl, M', X'⟩
    · rw [if_neg c2, if_pos rfl]
      exact bad (-2) (by decide) (by rw [sPrice, if_neg (by omega), if_pos c2])
  · rw [if_neg c1, if_pos rfl]
    exact bad (-1) (by decide) (by rw [sPrice, if_pos c1])
theorem sim_throw (x : Int) : SIM (mm_throwAway x) (xx_throwAway x) := by
  intro μ ν t h0 ht M X
  have h8 := M.1.2.1
  have b1 := fnd_b (a := μ 1) x h8.1
  rw [mm_throwAway, xx_throwAway, mfind_eq x h8, sb]
  have hx : ∀ τ : Mem, SRel (μ 1) τ 10 → TI τ → ∃ τ', xa_throwOut x τ = some ((sThrow (μ 1) x).1, τ') ∧ SRel (sThrow (μ 1) x).2 τ' 10 ∧ XF τ τ' ∧ TI τ' := fun τ hτ T => by
    obtain ⟨τ', e, r, f⟩ := xthrow_eq (x := x) hτ M.1 h0 (by omega)
    exact ⟨τ', e, r, fr_XF f, TI_fr f T⟩
  have wt := Wf_sThrow (x := x) M.1 h0
  by_cases c : fnd (μ 1) x = -5
  · rw [if_pos c]
    obtain ⟨ν1, e4, X1, row1, g1⟩ := prep_eq X M
    obtain ⟨τ', e, S, F, T⟩ := hx ν1 X1.1 X1.2.1
    rw [sThrow, if_pos c] at e S
    rw [e4, sb, e, sb, end_neg (show (-1 : Int) < 0 by decide), sb]
    exact ⟨_, _, _, rfl, rfl, MI_mono M (by omega), stay_XI X1 F S T (fun _ _ _ => rfl) (fun _ => rfl) (fun _ => rfl) (fun _ => rfl)⟩
  · rw [if_neg c]
    have m1 := mixA_M M.1 (k := fnd (μ 1) x) (by omega) (by omega)
    have u1 := un_b (mixA (μ 1) (fnd (μ 1) x))
    have t55 := ab M.1 55 (by omega) (by omega)
    have hs : sThrow (μ 1) x = (un (mixA (μ 1) (fnd (μ 1) x)), drp (up (μ 1) 55 (μ 1 55 + un (mixA (μ 1) (fnd (μ 1) x)))) (fnd (μ 1) x)) := by rw [sThrow, if_neg c]
    rw [hs] at hx wt
    obtain ⟨μ1, μ', ν1, ν2, ν', e1, h1, e3, e4, e5, e6, M', X', _, _⟩ := ord_pair (u := t + 1500000) M X hx Iff.rfl (fun h => absurd h (by dsimp only; omega)) (Wf_mono wt (by omega)) (by omega)
    rw [e1, sb, mmixIn_eq μ1 (by omega) (by omega), sb, h1, units_eq m1, sb, bnd_eq, w32_eq (by omega) (by omega), ← pl_self μ1, h1, mst_pl1, pdropJar μ1 (by rw [up_ne (by omega)]; omega) (by rw [up_ne (by omega)]; omega), sb, e3, sb, e4, sb, e5, sb, e6, sb]
    exact ⟨_, _, _, rfl, rfl, M', X'⟩
