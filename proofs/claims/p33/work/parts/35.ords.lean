/-! bringing a mix, dropping and making rules, wants, prices, throwing out, selling: in the class -/
theorem mS_dg {m : Int} (hm : isM m) (k : Nat) : mS (fun j => dg j m) k + p3 k * (m / p3 k) = m := by
  induction k with
  | zero => rw [mS, p3]; omega
  | succ k ih =>
    have hd := dg_b k m
    have e : m / p3 k = 3 * (m / p3 k / 3) + dg k m := by unfold dg; omega
    rw [mS, div_p3s', p3]
    rw [show (fun j => dg j m) k % 3 = dg k m from by dsimp only; omega]
    rw [e] at ih
    generalize m / p3 k / 3 = z at ih ⊢
    generalize dg k m = d at ih ⊢
    generalize p3 k = p at ih ⊢
    rw [Int.mul_add, ← Int.mul_assoc, Int.mul_comm p 3, Int.mul_comm p d] at ih
    omega
theorem mS_dg8 {m : Int} (hm : isM m) : mS (fun j => dg j m) 8 = m := by
  have := mS_dg hm 8
  rw [show m / p3 8 = 0 from Int.ediv_eq_zero_of_lt hm.1 (show m < 6561 from hm.2)] at this
  omega
theorem uS_dg (m : Int) (j : Nat) : ∀ k, k + j = 8 → uS (fun j => dg j m) k + unk j (m / p3 k) = uS (fun j => dg j m) 8 := by
  induction j with
  | zero => intro k hk; rw [show k = 8 by omega, unk]; omega
  | succ j ih =>
    intro k hk
    rw [← ih (k + 1) (by omega), uS, unk, div_p3s', dg]
    omega
theorem uS_dg8 (m : Int) : uS (fun j => dg j m) 8 = un m := by
  have := uS_dg m 8 0 (by omega)
  rw [uS, show p3 0 = 1 from rfl, Int.ediv_one, ← un_def] at this
  omega
theorem pS_dg (p : Nat → Int) (m : Int) (j : Nat) : ∀ k, k + j = 8 → pS p (fun j => dg j m) k + prk j (fun i => p (k + i)) (m / p3 k) = pS p (fun j => dg j m) 8 := by
  induction j with
  | zero => intro k hk; rw [show k = 8 by omega, prk]; omega
  | succ j ih =>
    intro k hk
    rw [← ih (k + 1) (by omega), pS, prk, div_p3s', dg, Nat.add_zero, Int.add_assoc]
    congr 2
    exact prk_cong j _ _ _ (fun i _ => by rw [show k + 1 + i = k + (i + 1) by omega])
theorem pS_dg8 (p : Nat → Int) (m : Int) : pS p (fun j => dg j m) 8 = prc p m := by
  have := pS_dg p m 8 0 (by omega)
  rw [pS, show p3 0 = 1 from rfl, Int.ediv_one, prc_def] at *
  simp only [Nat.zero_add, Int.zero_add] at this
  exact this.symm
theorem xbr_lp {m : Int} (hm : isM m) (j : Nat) : ∀ (k n : Nat) (ν : Mem), k + j = 8 → j < n → (∀ q, q < k → ν 62 q = dg q m) → ∃ ν', xa_bring_12 n m k ν = xa_bring_39 ν' ∧ (∀ q, q < 8 → ν' 62 q = dg q m) ∧ ∀ p q, p ≠ 62 → ν' p q = ν p q := by
  induction j with
  | zero =>
    intro k n ν hk hn hq
    obtain ⟨n, rfl⟩ : ∃ m, n = m + 1 := ⟨n - 1, by omega⟩
    have : k = 8 := by omega
    subst this
    rw [xa_bring_12, if_pos (by decide)]
    exact ⟨ν, rfl, hq, fun _ _ _ => rfl⟩
  | succ j ih =>
    intro k n ν hk hn hq
    obtain ⟨n, rfl⟩ : ∃ m, n = m + 1 := ⟨n - 1, by omega⟩
    have hp := p3_pos k
    have e3 : w32 ((k : Int) + 1) = ((k + 1 : Nat) : Int) := by rw [w32_eq (by omega) (by omega)]; omega
    rw [xa_bring_12, if_neg (by omega), pget_eq (by omega), sb, if_neg (by omega), dg_m (by omega) hm, aput_eq (by omega) (by omega), sb, bnd_eq, e3, Int.toNat_natCast]
    obtain ⟨ν', e, r, f⟩ := ih (k + 1) n (mst ν 62 k (dg k m)) (by omega) (by omega) (fun q hq2 => by
      by_cases c : q = k
      · subst c; rw [mst_same]
      · rw [mst_ix c]; exact hq q (by omega))
    exact ⟨ν', e, r, fun p q h => by rw [f p q h, mst_pl h]⟩
def frb (μ μ' : Mem) : Prop := ∀ p q, (p < 10 ∨ (16 < p ∧ p ≠ 62)) → μ' p q = μ p q
theorem fr_frb {μ μ' : Mem} (h : fr μ μ') : frb μ μ' := fun p q hp => h p q (by omega)
theorem xbring_no {μ : Mem} {m : Int} (hm : ¬ isM m) : xa_bring m μ = some (-2, μ) := by
  rw [xa_bring, xisMix_eq, sb, if_neg hm, if_pos rfl]
theorem xbring_eq {μ : Mem} {a : Nat → Int} {t m : Int} (h : SRel a μ 10) (w : Wf a t) (h0 : 0 ≤ t) (ht : t ≤ 1000000000) (hm : isM m) : ∃ μ', xa_bring m μ = some ((sComes a m (un m) (prc a m)).1, μ') ∧ SRel (sComes a m (un m) (prc a m)).2 μ' 10 ∧ frb μ μ' := by
  rw [xa_bring, xisMix_eq, sb, if_pos hm, if_neg (by decide)]
  obtain ⟨ν, e, r, f⟩ := xbr_lp hm 8 0 FU μ (by omega) (by have := FU_ge; omega) (fun q hq => by omega)
  rw [show ((0 : Nat) : Int) = 0 from rfl] at e
  rw [e, xa_bring_39]
  obtain ⟨μ', e2, r2, f2⟩ := xbringU62_eq (A := fun j => dg j m) r (fun j hj => by have := dg_b j m; omega) (by rw [uS_dg8]; have := un_b m; omega) (by rw [pS_dg8]; have := prc_b w.1 m; omega) (SRel_fr h (fun p q h1 h2 => f p q (by omega))) w h0 ht
  rw [mS_dg8 hm, uS_dg8, pS_dg8] at e2 r2
  rw [e2, sb]
  exact ⟨μ', rfl, r2, fun p q hp => by rw [f2 p q (by omega), f p q (by omega)]⟩
theorem xdrop_eq {μ : Mem} {a : Nat → Int} {t x : Int} (h : SRel a μ 10) (w : Wf a t) : ∃ μ', xa_dropRule x μ = some (if 0 ≤ x ∧ x < a 34 then a 34 - 1 else -1, μ') ∧ SRel (sDrop a x).2 μ' 10 ∧ fr μ μ' := by
  rw [xa_dropRule, h.2.2.1]
  by_cases c1 : x < 0
  · rw [if_pos c1, xa_dropRule_15, if_neg (by omega), sDrop, if_neg (by omega)]
    exact ⟨μ, rfl, h, fr_rf μ⟩
  · rw [if_neg c1]
    by_cases c2 : x < a 34
    · obtain ⟨μ', e, r, f⟩ := xremRule_eq (k := x) h w (by omega)
      rw [if_pos c2, e, sb, if_pos (by omega), sDrop, if_pos (by omega)]
      exact ⟨μ', by rw [r.2.2.1, drr_34], r, f⟩
    · rw [if_neg c2, xa_dropRule_15, if_neg (by omega), sDrop, if_neg (by omega)]
      exact ⟨μ, rfl, h, fr_rf μ⟩
theorem xbland_no {μ : Mem} {m : Int} (hm : ¬ isM m) : xa_makeBland m μ = some (-2, μ) := by
  rw [xa_makeBland, xisMix_eq, sb, if_neg hm, if_pos rfl]
theorem xbland_eq {μ : Mem} {a : Nat → Int} {t m : Int} (h : SRel a μ 10) (w : Wf a t) (hm : isM m) : ∃ μ', xa_makeBland m μ = some (if a 34 = 8 then -3 else a 34 + 1, μ') ∧ SRel (sRule a m).2 μ' 10 ∧ fr μ μ' := by
  have h34 := w.2.2.2.2.1
  rw [xa_makeBland, xisMix_eq, sb, if_pos hm, if_neg (by decide), h.2.2.1, sRule]
  by_cases c : a 34 = 8
  · rw [if_neg (by omega), if_pos c, if_pos c]
    exact ⟨μ, rfl, h, fr_rf μ⟩
  · rw [if_pos (by omega), if_neg c, if_neg c, aput_eq (by omega) (by omega), sb, bnd_eq, mst_same, mst_pl (by decide), h.2.2.1, w32_eq (by omega) (by omega)]
    have g1 := srel_rul h (wf3 w) (k := (a 34).toNat) (by omega) m
    have v1 := Wf_rul w (k := (a 34).toNat) (by omega) hm
    have e34 : up a (35 + (a 34).toNat) m 34 = a 34 := up_ne (by omega)
    refine ⟨_, rfl, srel_ruled g1 (wf3 v1) (fun k k0 k1 => ?_) (by omega), fr_mst (fr_mst (fr_rf μ) (by omega)) (by omega)⟩
    rw [e34] at k0
    rw [show k = (a 34).toNat by omega, mst_same, up_same]
theorem xwelcome_no {μ : Mem} {m : Int} (hm : ¬ isM m) : xa_welcome m μ = some (-2, μ) := by
  rw [xa_welcome, xisMix_eq, sb, if_neg hm, if_pos rfl]
theorem xwelcome_eq {μ : Mem} {a : Nat → Int} {t m : Int} (h : SRel a μ 10) (w : Wf a t) (hm : isM m) : ∃ μ', xa_welcome m μ = some ((sWant a m).1, μ') ∧ SRel (sWant a m).2 μ' 10 ∧ fr μ μ' := by
  have h43 := w.2.2.2.2.2.2.1
  rw [xa_welcome, xisMix_eq, sb, if_pos hm, if_neg (by decide), h.2.2.2.1, sWant]
  by_cases c : a 43 = 8
  · rw [if_neg (by omega), if_pos c]
    exact ⟨μ, rfl, h, fr_rf μ⟩
  · rw [if_pos (by omega), if_neg c, aput_eq (by omega) (by omega), sb, bnd_eq, mst_same, mst_pl (by decide), h.2.2.2.1, w32_eq (by omega) (by omega)]
    have g1 := srel_wan h (wf3 w) (k := (a 43).toNat) (by omega) m
    have v1 := Wf_wan w (k := (a 43).toNat) (by omega) hm
    have e43 : up a (44 + (a 43).toNat) m 43 = a 43 := up_ne (by omega)
    refine ⟨_, rfl, srel_waits g1 (wf3 v1) (fun k k0 k1 => ?_) (by omega), fr_mst (fr_mst (fr_rf μ) (by omega)) (by omega)⟩
    rw [e43] at k0
    rw [show k = (a 43).toNat by omega, mst_same, up_same]
def sPrice (a : Nat → Int) (x v : Int) : Int × (Nat → Int) := if ¬ (0 ≤ x ∧ x ≤ 7) then (-1, a) else if ¬ (0 ≤ v ∧ v ≤ 99) then (-2, a) else if a x.toNat = v then (-5, a) else (a x.toNat, up a x.toNat v)
theorem xprice_ord {μ : Mem} {a : Nat → Int} {t x v : Int} (h : SRel a μ 10) (w : Wf a t) : ∃ μ', xa_setPrice x v μ = some ((sPrice a x v).1, μ') ∧ SRel (sPrice a x v).2 μ' 10 ∧ fr μ μ' := by
  rw [xa_setPrice]
  by_cases c1 : 0 ≤ x ∧ x ≤ 7
  · rw [if_neg (by omega), if_pos (by omega)]
    by_cases c2 : 0 ≤ v ∧ v ≤ 99
    · rw [if_neg (by omega), if_pos (by omega), aget_eq (by omega) (by omega), sb, h.2.2.2.2.2.2.1 x.toNat (by omega)]
      by_cases c3 : a x.toNat = v
      · rw [if_pos c3, sPrice, if_neg (by omega), if_neg (by omega), if_pos c3]
        exact ⟨μ, rfl, h, fr_rf μ⟩
      · rw [if_neg c3, aput_eq (by omega) (by omega), sb, sPrice, if_neg (by omega), if_neg (by omega), if_neg c3]
        exact ⟨_, rfl, srel_price h (wf3 w) (k := x.toNat) (by omega) v, fr_mst (fr_rf μ) (by omega)⟩
    · by_cases c3 : v < 0
      · rw [if_pos c3, xa_setPrice_22, sPrice, if_neg (by omega), if_pos c2]
        exact ⟨μ, rfl, h, fr_rf μ⟩
      · rw [if_neg c3, if_neg (by omega), xa_setPrice_22, sPrice, if_neg (by omega), if_pos c2]
        exact ⟨μ, rfl, h, fr_rf μ⟩
  · by_cases c3 : x < 0
    · rw [if_pos c3, xa_setPrice_10, sPrice, if_pos c1]
      exact ⟨μ, rfl, h, fr_rf μ⟩
    · rw [if_neg c3, if_neg (by omega), xa_setPrice_10, sPrice, if_pos c1]
      exact ⟨μ, rfl, h, fr_rf μ⟩
noncomputable def sThrow (a : Nat → Int) (x : Int) : Int × (Nat → Int) := if fnd a x = -5 then (-1, a) else (un (mixA a (fnd a x)), drp (up a 55 (a 55 + un (mixA a (fnd a x)))) (fnd a x))
theorem xthrow_eq {μ : Mem} {a : Nat → Int} {t x : Int} (h : SRel a μ 10) (w : Wf a t) (h0 : 0 ≤ t) (ht : t ≤ 1000000000) : ∃ μ', xa_throwOut x μ = some ((sThrow a x).1, μ') ∧ SRel (sThrow a x).2 μ' 10 ∧ fr μ μ' := by
  have h8 := w.2.1
  have b1 := fnd_b (a := a) x h8.1
  rw [xa_throwOut, xplace_eq x h w, sb, sThrow]
  by_cases c1 : fnd a x = -5
  · rw [if_pos c1, if_neg (by omega), if_pos c1]
    exact ⟨μ, rfl, h, fr_rf μ⟩
  · have m1 := mixA_M w (k := fnd a x) (by omega) (by omega)
    have u1 := un_b (mixA a (fnd a x))
    have t55 := ab w 55 (by omega) (by omega)
    rw [if_neg c1, if_pos (by omega), if_neg c1, aget_eq (by omega) (by omega), sb, smix h w (by omega) (by omega), xunits_eq m1, sb, bnd_eq, show μ 16 3 = a 55 from sacc h (by omega), w32_eq (by omega) (by omega)]
    have g1 : SRel (up a 55 (a 55 + un (mixA a (fnd a x)))) (mst μ 16 3 (a 55 + un (mixA a (fnd a x)))) 10 := srel_acc h (wf3 w) (k := 3) (by omega) _
    have v1 : Wf (up a 55 (a 55 + un (mixA a (fnd a x)))) (t + 16) := Wf_acu w (by omega) (by omega) (by omega)
    obtain ⟨μ', e, r, f⟩ := xremJar_eq (k := fnd a x) g1 v1 (by rw [up_ne (by omega)]; omega)
    rw [e, sb]
    exact ⟨μ', rfl, r, fun p q hp => by rw [f p q hp, mst_pl (by omega)]⟩
noncomputable def sSell (a : Nat → Int) (k : Int) : Int × (Nat → Int) := (prc a (mixA a k) + prc a (mixA a k) / 2, drp (up (up (up a 54 (a 54 + un (mixA a k))) 57 (a 57 + (prc a (mixA a k) + prc a (mixA a k) / 2))) 58 (a 58 + 1)) k)
theorem half {p : Int} (h : 0 ≤ p ∧ p ≤ 100000) : w32 (Int.tdiv p 2) = p / 2 := by
  rw [Int.tdiv_eq_ediv_of_nonneg h.1, w32_eq (by omega) (by omega)]
theorem xsell_eq {μ : Mem} {a : Nat → Int} {t k : Int} (h : SRel a μ 10) (w : Wf a t) (h0 : 0 ≤ t) (ht : t ≤ 1000000000) (hk : 0 ≤ k ∧ k < a 8) : ∃ μ', xa_sell k μ = some ((sSell a k).1, μ') ∧ SRel (sSell a k).2 μ' 10 ∧ fr μ μ' := by
  have h8 := w.2.1
  have m1 := mixA_M w hk.1 hk.2
  have u1 := un_b (mixA a k)
  have p1 := prc_b w.1 (mixA a k)
  have t54 := ab w 54 (by omega) (by omega)
  have t57 := ab w 57 (by omega) (by omega)
  have t58 := ab w 58 (by omega) (by omega)
  rw [xa_sell, aget_eq (by omega) (by omega), sb, smix h w (by omega) (by omega), xprice_eq (sokP h w) m1, sb, sprc h, half (by omega), w32_eq (by omega) (by omega), bnd_eq, xunits_eq m1, sb, bnd_eq, show μ 16 2 = a 54 from sacc h (by omega), w32_eq (by omega) (by omega), bnd_eq, mst_ix (by decide), show μ 16 5 = a 57 from sacc h (by omega), w32_eq (by omega) (by omega), bnd_eq, mst_ix (by decide), mst_ix (by decide), show μ 16 6 = a 58 from sacc h (by omega), w32_eq (by omega) (by omega), sSell]
  have hv : 0 ≤ prc a (mixA a k) + prc a (mixA a k) / 2 ∧ prc a (mixA a k) + prc a (mixA a k) / 2 ≤ 3000 := by omega
  generalize prc a (mixA a k) + prc a (mixA a k) / 2 = v at hv ⊢
  generalize un (mixA a k) = u at u1 ⊢
  have g1 : SRel (up a 54 (a 54 + u)) (mst μ 16 2 (a 54 + u)) 10 := srel_acc h (wf3 w) (k := 2) (by omega) _
  have v1 : Wf (up a 54 (a 54 + u)) (t + 16) := Wf_acu w (by omega) (by omega) (by omega)
  have g2 : SRel (up (up a 54 (a 54 + u)) 57 (a 57 + v)) (mst (mst μ 16 2 (a 54 + u)) 16 5 (a 57 + v)) 10 := srel_acc g1 (wf3 v1) (k := 5) (by omega) _
  have v2 : Wf (up (up a 54 (a 54 + u)) 57 (a 57 + v)) (t + 3000) := Wf_acu v1 (by omega) (by omega) (by omega)
  have g3 : SRel (up (up (up a 54 (a 54 + u)) 57 (a 57 + v)) 58 (a 58 + 1)) (mst (mst (mst μ 16 2 (a 54 + u)) 16 5 (a 57 + v)) 16 6 (a 58 + 1)) 10 := srel_acc g2 (wf3 v2) (k := 6) (by omega) _
  have v3 : Wf (up (up (up a 54 (a 54 + u)) 57 (a 57 + v)) 58 (a 58 + 1)) (t + 3000) := Wf_acu v2 (by omega) (by omega) (by omega)
  obtain ⟨μ', e, r, f⟩ := xremJar_eq (k := k) g3 v3 (by rw [up_ne (by omega), up_ne (by omega), up_ne (by omega)]; omega)
  rw [e, sb]
  exact ⟨μ', rfl, r, fun p q hp => by rw [f p q hp, mst_pl (by omega), mst_pl (by omega), mst_pl (by omega)]⟩
