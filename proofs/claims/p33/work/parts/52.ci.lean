/-! the class alone: what holds between two calls, and what a call answers -/
def AN (x : Option (Int × Mem)) (v : Int) (P : Mem → Prop) : Prop := ∃ ν', x = some (v, ν') ∧ P ν'
theorem AN.bind {x : Option (Int × Mem)} {v w : Int} {P Q : Mem → Prop} {f : Int × Mem → Option (Int × Mem)} (h : AN x v P) (k : ∀ ν', P ν' → AN (f (v, ν')) w Q) : AN (x.bind f) w Q := by
  obtain ⟨ν', e, p⟩ := h
  rw [e, sb]
  exact k ν' p
theorem AN.pb {x : Option Int} {v w : Int} {Q : Mem → Prop} {f : Int → Option (Int × Mem)} (e : x = some v) (k : AN (f v) w Q) : AN (x.bind f) w Q := by
  rw [e, sb]
  exact k
theorem AN.ret {v : Int} {ν : Mem} {P : Mem → Prop} (h : P ν) : AN (some (v, ν)) v P := ⟨ν, rfl, h⟩
theorem AN.of {x : Option (Int × Mem)} {v w : Int} {P : Mem → Prop} (h : AN x v P) (e : v = w) : AN x w P := by
  subst e
  exact h
theorem AN.imp {x : Option (Int × Mem)} {v : Int} {P Q : Mem → Prop} (h : AN x v P) (k : ∀ ν, P ν → Q ν) : AN x v Q := by
  obtain ⟨ν', e, p⟩ := h
  exact ⟨ν', e, k ν' p⟩
def CI (a : Nat → Int) (t : Int) (ν : Mem) : Prop := Wf a t ∧ SRel a ν 10 ∧ TI ν ∧ (0 ≤ ν 24 1 ∧ ν 24 1 < 5) ∧ (0 ≤ ν 24 2 ∧ ν 24 2 ≤ 4)
def TOP (b : Nat → Int) (t : Int) (ν : Mem) : Prop := 1 ≤ ν 24 2 ∧ Wf b t ∧ SRel b ν (26 + 7 * ((ν 24 1 + 4) % 5).toNat)
def TPO (ob : Option (Nat → Int)) (t : Int) (ν : Mem) : Prop := match ob with
  | none => True
  | some b => TOP b t ν
def ST (a : Nat → Int) (ob : Option (Nat → Int)) (t : Int) (ν : Mem) : Prop := CI a t ν ∧ TPO ob t ν
theorem CI_q {a : Nat → Int} {t : Int} {ν ν' : Mem} (h : CI a t ν) (T : TI ν') (F : QF ν ν') : CI a t ν' := by
  obtain ⟨w, S, _, h3, h4⟩ := h
  exact ⟨w, q_SRel S F, T, by rw [F.2 24 1 (by omega) (by omega)]; exact h3, by rw [F.2 24 2 (by omega) (by omega)]; exact h4⟩
theorem TOP_q {b : Nat → Int} {t : Int} {ν ν' : Mem} (h : TOP b t ν) (F : QF ν ν') : TOP b t ν' := by
  obtain ⟨h1, w, S⟩ := h
  refine ⟨by rw [F.2 24 2 (by omega) (by omega)]; exact h1, w, ?_⟩
  rw [F.2 24 1 (by omega) (by omega)]
  exact SRel_fr S (fun p q x y => F.2 p q (by omega) (by omega))
theorem ST_q {a : Nat → Int} {ob : Option (Nat → Int)} {t : Int} {ν ν' : Mem} (h : ST a ob t ν) (T : TI ν') (F : QF ν ν') : ST a ob t ν' := by
  refine ⟨CI_q h.1 T F, ?_⟩
  cases ob with
  | none => trivial
  | some b => exact TOP_q h.2 F
theorem ST_n {a : Nat → Int} {ob : Option (Nat → Int)} {t u : Int} {ν : Mem} (h : ST a ob t ν) (htu : t ≤ u) : ST a none u ν := ⟨⟨Wf_mono h.1.1 htu, h.1.2⟩, trivial⟩
theorem prep_X {a : Nat → Int} {ob : Option (Nat → Int)} {t : Int} {ν : Mem} (h : ST a ob t ν) : ∃ ν', xh_prepare ν = some ν' ∧ CI a t ν' ∧ SRel a ν' (26 + 7 * (ν' 24 1).toNat) := by
  obtain ⟨⟨w, h1, h2, h3, h4⟩, -⟩ := h
  obtain ⟨ν', e, c, f, _⟩ := xcopy_eq (t := 26 + 7 * (ν 24 1).toNat) (o := 10) (by omega) ν
  have g : ∀ p q, (p < 26 ∨ 60 < p) → ν' p q = ν p q := fun p q hp => f p q (by omega)
  have h241 : ν' 24 1 = ν 24 1 := g _ _ (by omega)
  rw [xh_prepare, if_pos h3, e]
  refine ⟨ν', rfl, ⟨w, SRel_fr h1 (fun p q _ _ => g p q (by omega)), ?_, by rw [h241]; exact h3, by rw [g _ _ (by omega)]; exact h4⟩, ?_⟩
  · obtain ⟨r, k, L⟩ := h2
    exact ⟨r, k, LK_fr L (fun q => g _ _ (by omega)) (fun q => g _ _ (by omega)) (fun q => g _ _ (by omega)) (fun q => g _ _ (by omega)) (fun q => g _ _ (by omega))⟩
  · rw [h241]; exact c _ (wf3 w) h1
theorem rec_X {a a' : Nat → Int} {t u v : Int} {ν ν' : Mem} (h : CI a t ν) (hrow : SRel a ν (26 + 7 * (ν 24 1).toNat)) (F : XF ν ν') (S : SRel a' ν' 10) (T : TI ν') (w : Wf a' u) (htu : t ≤ u) (hv : 0 ≤ v) : ∃ ν'', xx_ended v ν' = some (v, ν'') ∧ ST a' (some a) u ν'' := by
  obtain ⟨w0, h1, h2, h3, h4⟩ := h
  have b1 : ν' 24 1 = ν 24 1 := F.2.1 _ _ (by omega) (by omega)
  have b2 : ν' 24 2 = ν 24 2 := F.2.1 _ _ (by omega) (by omega)
  have e1 : w32 (ν 24 1 + 1) = ν 24 1 + 1 := w32_eq (by omega) (by omega)
  have e2 : w32 (ν 24 2 + 1) = ν 24 2 + 1 := w32_eq (by omega) (by omega)
  have tm : Int.tmod (ν 24 1 + 1) 5 = (ν 24 1 + 1) % 5 := Int.tmod_eq_emod_of_nonneg (by omega)
  have e5 : ∃ s : Int, (if 4 < ν 24 2 + 1 then 4 else ν 24 2 + 1) = s ∧ 1 ≤ s ∧ s ≤ 4 := by
    split
    · exact ⟨4, rfl, by omega, by omega⟩
    · exact ⟨_, rfl, by omega, by omega⟩
  obtain ⟨s, e5, s1, s4⟩ := e5
  have e6 : xh_record ν' = some (mst (mst ν' 24 1 ((ν 24 1 + 1) % 5)) 24 2 s) := by
    rw [xh_record, bnd_eq, b1, e1, tm, bnd_eq, mst_ix (by decide), b2, e2, e5, bnd_eq]
  refine ⟨_, by rw [xx_ended, if_neg (by omega), e6, sb, xx_ended_11], ⟨w, ?_, ?_, ?_, ?_⟩, ?_, Wf_mono w0 htu, ?_⟩
  · exact SRel_fr S (fun p q _ _ => by rw [mst_pl (by omega), mst_pl (by omega)])
  · obtain ⟨r, k, L⟩ := T
    exact ⟨r, k, LK_fr L (fun q => by rw [mst_pl (by omega), mst_pl (by omega)]) (fun q => by rw [mst_pl (by omega), mst_pl (by omega)]) (fun q => by rw [mst_pl (by omega), mst_pl (by omega)]) (fun q => by rw [mst_pl (by omega), mst_pl (by omega)]) (fun q => by rw [mst_pl (by omega), mst_pl (by omega)])⟩
  · rw [mst_ix (by decide), mst_same]; omega
  · rw [mst_same]; omega
  · rw [mst_same]; exact s1
  · rw [mst_ix (by decide), mst_same, show ((ν 24 1 + 1) % 5 + 4) % 5 = ν 24 1 by omega]
    exact SRel_fr hrow (fun p q _ _ => by rw [mst_pl (by omega), mst_pl (by omega)]; exact F.2.1 p q (by omega) (by omega))
theorem ord_X {a a' : Nat → Int} {ob : Option (Nat → Int)} {t u v : Int} {ν : Mem} {Fx : Mem → Option (Int × Mem)} (h : ST a ob t ν) (hx : ∀ τ : Mem, SRel a τ 10 → TI τ → ∃ τ', Fx τ = some (v, τ') ∧ SRel a' τ' 10 ∧ XF τ τ' ∧ TI τ') (w : Wf a' u) (htu : t ≤ u) (hv : 0 ≤ v) : ∃ ν1 ν2 ν3, xh_prepare ν = some ν1 ∧ CI a t ν1 ∧ Fx ν1 = some (v, ν2) ∧ xx_ended v ν2 = some (v, ν3) ∧ ST a' (some a) u ν3 := by
  obtain ⟨ν1, e1, C, R⟩ := prep_X h
  obtain ⟨ν2, e2, S, F, T⟩ := hx ν1 C.2.1 C.2.2.1
  obtain ⟨ν3, e3, Z⟩ := rec_X C R F S T w htu hv
  exact ⟨ν1, ν2, ν3, e1, C, e2, e3, Z⟩
theorem ord_N {a a' : Nat → Int} {ob : Option (Nat → Int)} {t u v : Int} {ν : Mem} {Fx : Mem → Option (Int × Mem)} (h : ST a ob t ν) (hx : ∀ τ : Mem, SRel a τ 10 → TI τ → ∃ τ', Fx τ = some (v, τ') ∧ SRel a' τ' 10 ∧ XF τ τ' ∧ TI τ') (ha : a' = a) (htu : t ≤ u) (hv : v < 0) : ∃ ν1 ν2, xh_prepare ν = some ν1 ∧ Fx ν1 = some (v, ν2) ∧ xx_ended v ν2 = some (v, ν2) ∧ ST a none u ν2 := by
  subst ha
  obtain ⟨ν1, e1, C, R⟩ := prep_X h
  obtain ⟨ν2, e2, S, F, T⟩ := hx ν1 C.2.1 C.2.2.1
  refine ⟨ν1, ν2, e1, e2, end_neg hv, ⟨Wf_mono C.1 htu, S, T, ?_, ?_⟩, trivial⟩
  · rw [F.2.1 24 1 (by omega) (by omega)]; exact C.2.2.2.1
  · rw [F.2.1 24 2 (by omega) (by omega)]; exact C.2.2.2.2
section ACT
variable {a : Nat → Int} {ob : Option (Nat → Int)} {t : Int} {ν : Mem}
theorem a_jar {m : Int} (h : ST a ob t ν) (h0 : 0 ≤ t) (ht : t ≤ 900000000) (hm : isM m) (c : a 8 < 12 ∧ a 33 < 200) : AN (xx_jar m ν) (a 33) (ST (sComes a m (un m) (prc a m)).2 (some a) (t + 100000)) := by
  have pb := prc_b h.1.1.1 m
  have ub := un_b m
  have hv : (sComes a m (un m) (prc a m)).1 = a 33 := by rw [sComes, if_neg (by omega)]
  obtain ⟨ν1, ν2, ν3, e1, _, e2, e3, Z⟩ := ord_X (u := t + 100000) (v := a 33) (a' := (sComes a m (un m) (prc a m)).2) (Fx := xa_bring m) h
    (fun τ hτ T => by
      obtain ⟨τ', e, r, f⟩ := xbring_eq hτ h.1.1 h0 (by omega) hm
      rw [hv] at e
      exact ⟨τ', e, r, frb_XF f, TI_frb f T⟩) (Wf_sComes h.1.1 h0 hm (by omega) (by omega)) (by omega) h.1.1.2.2.2.1.1
  rw [xx_jar, e1, sb, e2, sb, e3, sb]
  exact AN.ret Z
theorem a_pour {x y : Int} (h : ST a ob t ν) (h0 : 0 ≤ t) (ht : t ≤ 900000000) (hv : 0 ≤ (sPours a x y).1) : AN (xx_pour x y ν) (sPours a x y).1 (ST (sPours a x y).2 (some a) (t + 100000)) := by
  obtain ⟨ν1, ν2, ν3, e1, _, e2, e3, Z⟩ := ord_X (u := t + 100000) (v := (sPours a x y).1) (a' := (sPours a x y).2) (Fx := xa_pourInto x y) h
    (fun τ hτ T => by
      have hJ : JT τ := by obtain ⟨r, k, L⟩ := T; exact L.1
      obtain ⟨τ', e, r, f⟩ := xpour_eq (x := x) (y := y) hJ hτ h.1.1 (by omega)
      exact ⟨τ', e, r, fr_XF f, TI_fr f T⟩) (Wf_mono (Wf_sPours h.1.1 h0) (by omega)) (by omega) hv
  rw [xx_pour, e1, sb, e2, sb, e3, sb]
  exact AN.ret Z
theorem a_pourN {x y : Int} (h : ST a ob t ν) (ht : t ≤ 900000000) (hv : (sPours a x y).1 < 0) : AN (xx_pour x y ν) (sPours a x y).1 (ST a none (t + 100000)) := by
  obtain ⟨ν1, ν2, e1, e2, e3, Z⟩ := ord_N (u := t + 100000) (v := (sPours a x y).1) (a' := (sPours a x y).2) (Fx := xa_pourInto x y) h
    (fun τ hτ T => by
      have hJ : JT τ := by obtain ⟨r, k, L⟩ := T; exact L.1
      obtain ⟨τ', e, r, f⟩ := xpour_eq (x := x) (y := y) hJ hτ h.1.1 (by omega)
      exact ⟨τ', e, r, fr_XF f, TI_fr f T⟩) (sPours_s h.1.1.2.1.1 hv) (by omega) hv
  rw [xx_pour, e1, sb, e2, sb, e3, sb]
  exact AN.ret Z
theorem a_more {x : Int} (h : ST a ob t ν) (h0 : 0 ≤ t) (ht : t ≤ 900000000) (hv : 0 ≤ (sMore a x).1) : AN (xx_more x ν) (sMore a x).1 (ST (sMore a x).2 (some a) (t + 100000)) := by
  obtain ⟨ν1, ν2, ν3, e1, _, e2, e3, Z⟩ := ord_X (u := t + 100000) (v := (sMore a x).1) (a' := (sMore a x).2) (Fx := xa_buyAgain x) h
    (fun τ hτ T => by
      have hJ : JT τ := by obtain ⟨r, k, L⟩ := T; exact L.1
      obtain ⟨τ', e, r, f⟩ := xbuy_eq (x := x) hJ hτ h.1.1 h0 (by omega)
      exact ⟨τ', e, r, fr_XF f, TI_fr f T⟩) (Wf_mono (Wf_sMore h.1.1 h0) (by omega)) (by omega) hv
  rw [xx_more, e1, sb, e2, sb, e3, sb]
  exact AN.ret Z
theorem a_moreN {x : Int} (h : ST a ob t ν) (h0 : 0 ≤ t) (ht : t ≤ 900000000) (hv : (sMore a x).1 < 0) : AN (xx_more x ν) (sMore a x).1 (ST a none (t + 100000)) := by
  obtain ⟨ν1, ν2, e1, e2, e3, Z⟩ := ord_N (u := t + 100000) (v := (sMore a x).1) (a' := (sMore a x).2) (Fx := xa_buyAgain x) h
    (fun τ hτ T => by
      have hJ : JT τ := by obtain ⟨r, k, L⟩ := T; exact L.1
      obtain ⟨τ', e, r, f⟩ := xbuy_eq (x := x) hJ hτ h.1.1 h0 (by omega)
      exact ⟨τ', e, r, fr_XF f, TI_fr f T⟩) (sMore_s hv) (by omega) hv
  rw [xx_more, e1, sb, e2, sb, e3, sb]
  exact AN.ret Z
theorem a_throw {x : Int} (h : ST a ob t ν) (h0 : 0 ≤ t) (ht : t ≤ 900000000) (hv : 0 ≤ (sThrow a x).1) : AN (xx_throwAway x ν) (sThrow a x).1 (ST (sThrow a x).2 (some a) (t + 100000)) := by
  obtain ⟨ν1, ν2, ν3, e1, _, e2, e3, Z⟩ := ord_X (u := t + 100000) (v := (sThrow a x).1) (a' := (sThrow a x).2) (Fx := xa_throwOut x) h
    (fun τ hτ T => by
      obtain ⟨τ', e, r, f⟩ := xthrow_eq (x := x) hτ h.1.1 h0 (by omega)
      exact ⟨τ', e, r, fr_XF f, TI_fr f T⟩) (Wf_mono (Wf_sThrow h.1.1 h0) (by omega)) (by omega) hv
  rw [xx_throwAway, e1, sb, e2, sb, e3, sb]
  exact AN.ret Z
theorem a_want {m : Int} (h : ST a ob t ν) (hm : isM m) (c : a 43 < 8) : AN (xx_want m ν) (a 43 + 1) (ST (sWant a m).2 (some a) (t + 100000)) := by
  have hv : (sWant a m).1 = a 43 + 1 := by rw [sWant, if_neg (by omega)]
  have h43 := h.1.1.2.2.2.2.2.2.1
  obtain ⟨ν1, ν2, ν3, e1, _, e2, e3, Z⟩ := ord_X (u := t + 100000) (v := a 43 + 1) (a' := (sWant a m).2) (Fx := xa_welcome m) h
    (fun τ hτ T => by
      obtain ⟨τ', e, r, f⟩ := xwelcome_eq hτ h.1.1 hm
      rw [hv] at e
      exact ⟨τ', e, r, fr_XF f, TI_fr f T⟩) (Wf_mono (Wf_sWant h.1.1 hm) (by omega)) (by omega) (by omega)
  rw [xx_want, e1, sb, e2, sb, e3, sb]
  exact AN.ret Z
theorem a_price {x v : Int} (h : ST a ob t ν) (hv : 0 ≤ (sPrice a x v).1) : AN (xx_price x v ν) (sPrice a x v).1 (ST (sPrice a x v).2 (some a) (t + 100000)) := by
  obtain ⟨ν1, ν2, ν3, e1, _, e2, e3, Z⟩ := ord_X (u := t + 100000) (v := (sPrice a x v).1) (a' := (sPrice a x v).2) (Fx := xa_setPrice x v) h
    (fun τ hτ T => by
      obtain ⟨τ', e, r, f⟩ := xprice_ord (x := x) (v := v) hτ h.1.1
      exact ⟨τ', e, r, fr_XF f, TI_fr f T⟩) (Wf_mono (Wf_sPrice h.1.1) (by omega)) (by omega) hv
  rw [xx_price, e1, sb, e2, sb, e3, sb]
  exact AN.ret Z
theorem a_priceN {x v : Int} (h : ST a ob t ν) (hv : (sPrice a x v).1 < 0) (ha : (sPrice a x v).2 = a) : AN (xx_price x v ν) (sPrice a x v).1 (ST a none (t + 100000)) := by
  obtain ⟨ν1, ν2, e1, e2, e3, Z⟩ := ord_N (u := t + 100000) (v := (sPrice a x v).1) (a' := (sPrice a x v).2) (Fx := xa_setPrice x v) h
    (fun τ hτ T => by
      obtain ⟨τ', e, r, f⟩ := xprice_ord (x := x) (v := v) hτ h.1.1
      exact ⟨τ', e, r, fr_XF f, TI_fr f T⟩) ha (by omega) hv
  rw [xx_price, e1, sb, e2, sb, e3, sb]
  exact AN.ret Z
theorem a_serve (h : ST a ob t ν) (h0 : 0 ≤ t) (ht : t ≤ 900000000) (hv : 0 ≤ (sServe a).1) : AN (xx_serve ν) (sServe a).1 (ST (sServe a).2 (some a) (t + 100000)) := by
  obtain ⟨ν1, ν2, ν3, e1, _, e2, e3, Z⟩ := ord_X (u := t + 100000) (v := (sServe a).1) (a' := (sServe a).2) (Fx := xa_serveFirst) h
    (fun τ hτ T => by
      obtain ⟨τ', e, r, f, T'⟩ := xserve_eq hτ T h.1.1 h0 (by omega)
      exact ⟨τ', e, r, f, T'⟩) (Wf_mono (Wf_sServe h.1.1 h0) (by omega)) (by omega) hv
  rw [xx_serve, e1, sb, e2, sb, e3, sb]
  exact AN.ret Z
theorem a_serveN (h : ST a ob t ν) (h0 : 0 ≤ t) (ht : t ≤ 900000000) (hv : (sServe a).1 < 0) : AN (xx_serve ν) (sServe a).1 (ST a none (t + 100000)) := by
  obtain ⟨ν1, ν2, e1, e2, e3, Z⟩ := ord_N (u := t + 100000) (v := (sServe a).1) (a' := (sServe a).2) (Fx := xa_serveFirst) h
    (fun τ hτ T => by
      obtain ⟨τ', e, r, f, T'⟩ := xserve_eq hτ T h.1.1 h0 (by omega)
      exact ⟨τ', e, r, f, T'⟩) (sServe_s h.1.1 hv) (by omega) hv
  rw [xx_serve, e1, sb, e2, sb, e3, sb]
  exact AN.ret Z
theorem a_drop {x : Int} (h : ST a ob t ν) (c : 0 ≤ x ∧ x < a 34) : AN (xx_drop x ν) (sr (drr a x)) (ST (drr a x) (some a) (t + 100000)) := by
  have hd : sDrop a x = (0, drr a x) := by rw [sDrop, if_pos c]
  have w := Wf_sDrop (x := x) h.1.1
  rw [hd] at w
  obtain ⟨ν1, e1, C, R⟩ := prep_X h
  obtain ⟨ν2, e2, S2, f2⟩ := xdrop_eq (x := x) C.2.1 h.1.1
  rw [hd] at S2
  rw [if_pos c] at e2
  obtain ⟨ν3, e3, T3, f3⟩ := strength_X w S2 (TI_fr f2 C.2.2.1)
  obtain ⟨ν4, e4, Z⟩ := rec_X (u := t + 100000) (v := sr (drr a x)) C R (XF_tr (fr_XF f2) (l_XF f3)) (SRel_fr S2 (fun p q h1 h2 => f3 p q (by omega) (by omega) (by omega) (by omega))) T3 (Wf_mono w (by omega)) (by omega) (sr_nn _)
  rw [xx_drop, e1, sb, e2, sb, bnd_eq, if_pos (by show 0 ≤ a 34 - 1; omega), e3, sb, xx_drop_33, e4, sb]
  exact AN.ret Z
theorem a_rule {m : Int} (h : ST a ob t ν) (hm : isM m) (c : a 34 < 8) : AN (xx_rule m ν) (sr (sRule a m).2) (ST (sRule a m).2 (some a) (t + 100000)) := by
  have h34 := h.1.1.2.2.2.2.1
  have w := Wf_sRule h.1.1 hm
  obtain ⟨ν1, e1, C, R⟩ := prep_X h
  obtain ⟨ν2, e2, S2, f2⟩ := xbland_eq C.2.1 h.1.1 hm
  rw [if_neg (by omega)] at e2
  obtain ⟨ν3, e3, T3, f3⟩ := strength_X w S2 (TI_fr f2 C.2.2.1)
  obtain ⟨ν4, e4, Z⟩ := rec_X (u := t + 100000) (v := sr (sRule a m).2) C R (XF_tr (fr_XF f2) (l_XF f3)) (SRel_fr S2 (fun p q h1 h2 => f3 p q (by omega) (by omega) (by omega) (by omega))) T3 (Wf_mono w (by omega)) (by omega) (sr_nn _)
  rw [xx_rule, e1, sb, e2, sb, bnd_eq, if_pos (by show 0 ≤ a 34 + 1; omega), e3, sb, xx_rule_33, e4, sb]
  exact AN.ret Z
theorem a_undo {b : Nat → Int} (h : ST a (some b) t ν) : ∃ s : Int, 0 ≤ s ∧ AN (xx_undo ν) s (ST b none t) := by
  obtain ⟨⟨w, h1, h2, h3, h4⟩, k1, wb, kS⟩ := h
  rw [xx_undo, xh_stepBack, if_neg (by omega), bnd_eq, w32_eq (x := ν 24 1 + 4) (by omega) (by omega), show Int.tmod (ν 24 1 + 4) 5 = (ν 24 1 + 4) % 5 from Int.tmod_eq_emod_of_nonneg (by omega), bnd_eq, mst_ix (by decide), w32_eq (by omega) (by omega)]
  generalize hν : mst (mst ν 24 1 ((ν 24 1 + 4) % 5)) 24 2 (ν 24 2 - 1) = ν1
  have b1 : ν1 24 1 = (ν 24 1 + 4) % 5 := by rw [← hν, mst_ix (by decide), mst_same]
  have b2 : ν1 24 2 = ν 24 2 - 1 := by rw [← hν, mst_same]
  have b3 : ∀ p q, p ≠ 24 → ν1 p q = ν p q := fun p q hp => by rw [← hν, mst_pl hp, mst_pl hp]
  obtain ⟨ν2, e4, cc, g, g2⟩ := xcopy_eq (t := 10) (o := 26 + 7 * (ν1 24 1).toNat) (by omega) ν1
  rw [xh_takeBack, if_pos (by omega), e4, sb]
  have g' : ∀ p q, (p < 10 ∨ 16 < p) → p ≠ 24 → ν2 p q = ν p q := fun p q hp h => by rw [g p q (by omega), b3 p q h]
  have g24 : ν2 24 2 = ν 24 2 - 1 := by rw [g _ _ (by omega), b2]
  rw [g24, sb]
  refine ⟨ν 24 2 - 1, by omega, AN.ret ⟨⟨wb, ?_, ?_, ?_, ?_⟩, trivial⟩⟩
  · refine cc _ (wf3 wb) ?_
    rw [b1]
    exact SRel_fr kS (fun p q _ _ => b3 p q (by omega))
  · obtain ⟨r, k, L⟩ := h2
    exact ⟨r, k, LK_fr L (fun q => g' _ _ (by omega) (by omega)) (fun q => g' _ _ (by omega) (by omega)) (fun q => g' _ _ (by omega) (by omega)) (fun q => g' _ _ (by omega) (by omega)) (fun q => g' _ _ (by omega) (by omega))⟩
  · show 0 ≤ ν2 24 1 ∧ ν2 24 1 < 5
    rw [g _ _ (by omega), b1]; omega
  · show 0 ≤ ν2 24 2 ∧ ν2 24 2 ≤ 4
    rw [g24]; omega
end ACT
