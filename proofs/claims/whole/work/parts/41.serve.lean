/-! rules made; serving -/
theorem sim_rule (m : Int) : SIM (mm_rule m) (xx_rule m) := by
  intro μ ν t h0 ht M X
  rw [mm_rule, xx_rule, isMix_eq, sb]
  by_cases hm : isM m
  · rw [if_pos hm, if_neg (by decide)]
    have e2 : ∀ μ1 : Mem, μ1 1 = μ 1 → mm_rules m μ1 = some ((sRule (μ 1) m).1, pl μ1 (sRule (μ 1) m).2) := fun μ1 h1 => by
      have := mrules_eq μ1 (a := μ 1) (x := m) M.1
      rwa [pl_of h1] at this
    have w := Wf_sRule M.1 hm
    have h34 := M.1.2.2.2.2.1
    by_cases c : μ 1 34 = 8
    · have hd : sRule (μ 1) m = (-3, μ 1) := by rw [sRule, if_pos c]
      rw [hd] at e2 w
      obtain ⟨μ1, μ', ν1, ν2, ν', e1, h1, e3, e4, e5, e6, M', X', ha, _⟩ := ord_pair (u := t + 1500000) (a' := μ 1) (v := -3) (v' := -3) (Fx := xa_makeBland m) M X
        (fun τ hτ T => by
          obtain ⟨τ', e, r, f⟩ := xbland_eq hτ M.1 hm
          rw [hd] at r
          rw [if_pos c] at e
          exact ⟨τ', e, r, fr_XF f, TI_fr f T⟩) Iff.rfl (fun _ => rfl) (Wf_mono w (by omega)) (by omega)
      rw [e1, sb, e2 μ1 h1, sb, e3, sb, if_neg (by show ¬ (0 : Int) ≤ -3; decide), mm_rule_35, e4, sb, e5, sb, bnd_eq, if_neg (by show ¬ (0 : Int) ≤ -3; decide), xx_rule_33, e6, sb]
      exact ⟨_, _, _, rfl, rfl, M', X'⟩
    · have hd : sRule (μ 1) m = (0, up (up (μ 1) (35 + (μ 1 34).toNat) m) 34 (μ 1 34 + 1)) := by rw [sRule, if_neg c]
      rw [hd] at e2 w
      obtain ⟨μ1, μ', ν1, ν2, ν', e1, h1, e3, e4, e5, e6, M', X', ha, _⟩ := ord_pair (u := t + 1500000) (a' := up (up (μ 1) (35 + (μ 1 34).toNat) m) 34 (μ 1 34 + 1)) (v := 0) (v' := sr (up (up (μ 1) (35 + (μ 1 34).toNat) m) 34 (μ 1 34 + 1))) (Fx := fun τ => (xa_makeBland m τ).bind fun p => xx_strength p.2) M X
        (fun τ hτ T => by
          obtain ⟨τ', e, r, f⟩ := xbland_eq hτ M.1 hm
          rw [hd] at r
          obtain ⟨τ2, e', T2, f2⟩ := strength_X w r (TI_fr f T)
          refine ⟨τ2, by rw [e, sb, e'], SRel_fr r (fun p q h1 h2 => f2 p q (by omega) (by omega) (by omega) (by omega)), XF_tr (fr_XF f) (l_XF f2), T2⟩) ⟨fun _ => sr_nn _, fun _ => by decide⟩ (fun h => absurd h (by decide)) (Wf_mono w (by omega)) (by omega)
      have ha := ha (by decide)
      obtain ⟨μ2, s1, s2, s3⟩ := strength_MI M'
      rw [ha] at s1
      rw [e1, sb, e2 μ1 h1, sb, e3, sb, if_pos (by show (0 : Int) ≤ 0; decide), s1, sb, mm_rule_35, e4, sb]
      cases hp : xa_makeBland m ν1 with
      | none => rw [hp] at e5; cases e5
      | some p =>
        obtain ⟨τ', e, r, f⟩ := xbland_eq (μ := ν1) (a := μ 1) (t := t) (by
          obtain ⟨ν0, q1, q2, q3, q4⟩ := prep_eq X M
          rw [e4] at q1
          rw [Option.some.inj q1]; exact q2.1) M.1 hm
        have hp2 := hp.symm.trans e
        rw [if_neg c] at hp2
        have hp3 := Option.some.inj hp2
        rw [hp, sb] at e5
        rw [sb, bnd_eq, hp3, if_pos (by show 0 ≤ μ 1 34 + 1; omega)]
        rw [hp3] at e5
        rw [e5, sb, xx_rule_33, e6, sb]
        exact ⟨_, _, _, rfl, rfl, s2, KP_XI s3 X' (XF_rf _) (fun _ _ _ _ => rfl) X'.2.1⟩
  · rw [if_neg hm, if_pos rfl]
    obtain ⟨ν1, e4, X1, row1, g1⟩ := prep_eq X M
    rw [e4, sb, xbland_no hm, sb, bnd_eq, if_neg (by show ¬ (0 : Int) ≤ -2; decide), xx_rule_33, end_neg (show (-2 : Int) < 0 by decide), sb]
    exact ⟨_, _, _, rfl, rfl, MI_mono M (by omega), X1⟩
/-! the first jar of a taste -/
def fjF (a : Nat → Int) (T : Int → Int) (v : Int) : Nat → Nat → Int
  | 0, _ => -5
  | j + 1, k => if T (a (10 + 2 * k)) = v then (k : Int) else fjF a T v j (k + 1)
theorem fjF_b (a : Nat → Int) (T : Int → Int) (v : Int) (j : Nat) : ∀ k, fjF a T v j k = -5 ∨ ((k : Int) ≤ fjF a T v j k ∧ fjF a T v j k < ((k + j : Nat) : Int)) := by
  induction j with
  | zero => intro k; exact Or.inl rfl
  | succ j ih =>
    intro k
    unfold fjF
    split
    · right; omega
    · rcases ih (k + 1) with h | h
      · exact Or.inl h
      · right; omega
theorem mdw_lp {μ : Mem} {a : Nat → Int} {x m : Int} (hm : 0 ≤ m ∧ m ≤ 7) (j : Nat) : ∀ (n : Nat) (i : Int) (b : Nat → Int), i + j = m → 0 ≤ i → j < n → b 43 = m → (∀ q : Nat, b q = if q = 43 then m else if 44 ≤ (q : Int) ∧ (q : Int) < 44 + i then a (q + 1) else a q) →
    mm_serves_38 n x i (pl μ b) = mm_serves_93 FU x 0 (pl μ (fun q => if q = 43 then m else if 44 ≤ (q : Int) ∧ (q : Int) < 44 + m then a (q + 1) else if (q : Int) = 44 + m then 0 else a q)) := by
  induction j with
  | zero =>
    intro n i b hi hki hn h34 hb
    obtain ⟨n, rfl⟩ : ∃ m, n = m + 1 := ⟨n - 1, by omega⟩
    rw [mm_serves_38, pl_1', h34, if_pos (by omega), mm_serves_75, pl_1', h34, w32_eq (x := 44 + m) (by omega) (by omega), aput_eq (by omega) (by omega), sb, mst_pl1]
    congr 2
    funext q
    unfold up
    by_cases c1 : q = (44 + m).toNat
    · rw [if_pos c1, if_neg (by omega), if_neg (by omega), if_pos (by omega)]
    · rw [if_neg c1, hb q]
      by_cases c3 : q = 43
      · rw [if_pos c3, if_pos c3]
      · rw [if_neg c3, if_neg c3]
        by_cases c4 : 44 ≤ (q : Int) ∧ (q : Int) < 44 + i
        · rw [if_pos c4, if_pos (by omega)]
        · rw [if_neg c4, if_neg (by omega), if_neg (by omega)]
  | succ j ih =>
    intro n i b hi hki hn h34 hb
    obtain ⟨n, rfl⟩ : ∃ m, n = m + 1 := ⟨n - 1, by omega⟩
    have hr : b (45 + i).toNat = a (i.toNat + 45) := by
      rw [hb, if_neg (by omega), if_neg (by omega), show (45 + i).toNat = i.toNat + 45 by omega]
    have e1 : w32 (w32 (44 + i) + 1) = 45 + i := by rw [w32_eq (x := 44 + i) (by omega) (by omega), w32_eq (by omega) (by omega)]; omega
    rw [mm_serves_38, pl_1', h34, if_neg (by omega), e1, aget_eq (by omega) (by omega), sb, pl_1', hr, w32_eq (x := 44 + i) (by omega) (by omega), aput_eq (by omega) (by omega), sb, mst_pl1, bnd_eq, w32_eq (x := i + 1) (by omega) (by omega)]
    refine ih n (i + 1) _ (by omega) (by omega) (by omega) (by rw [up_ne (by omega)]; exact h34) (fun q => ?_)
    unfold up
    by_cases c1 : q = (44 + i).toNat
    · subst c1
      rw [if_pos rfl, if_neg (by omega), if_pos (by omega), show (44 + i).toNat + 1 = i.toNat + 45 by omega]
    · rw [if_neg c1, hb q]
      by_cases c3 : q = 43
      · rw [if_pos c3, if_pos c3]
      · rw [if_neg c3, if_neg c3]
        by_cases c4 : 44 ≤ (q : Int) ∧ (q : Int) < 44 + i
        · rw [if_pos c4, if_pos (by omega)]
        · rw [if_neg c4, if_neg (by omega)]
theorem taste_laid {μ : Mem} {T : Int → Int} (h8 : μ 0 8 = 1) (hT : ∀ m, isM m → μ 7 m.toNat = T m) {m : Int} (hm : isM m) : mm_taste m μ = some (T m, μ) := by
  rw [mm_taste, mm_lay, if_neg (by omega), sb, aget_eq hm.1 (by omega), sb, hT m hm]
theorem ms93_lp {μ : Mem} {b : Nat → Int} {T : Int → Int} {t v : Int} (w : Wf b t) (h8 : μ 0 8 = 1) (hT : ∀ m, isM m → μ 7 m.toNat = T m) (j : Nat) : ∀ (k n : Nat), (k : Int) + j = b 8 → j < n → mm_serves_93 n v k (pl μ b) = if fjF b T v j k = -5 then mm_serves_185 (pl μ b) else mm_serves_119 (fjF b T v j k) (mixA b (fjF b T v j k)) (pl μ b) := by
  have w8 := w.2.1
  induction j with
  | zero =>
    intro k n hk hn
    obtain ⟨n, rfl⟩ : ∃ m, n = m + 1 := ⟨n - 1, by omega⟩
    rw [mm_serves_93, pl_1', if_pos (by omega), fjF, if_pos rfl]
  | succ j ih =>
    intro k n hk hn
    obtain ⟨n, rfl⟩ : ∃ m, n = m + 1 := ⟨n - 1, by omega⟩
    have e3 : w32 ((k : Int) + 1) = ((k + 1 : Nat) : Int) := by rw [w32_eq (by omega) (by omega)]; omega
    have hm := mixA_M w (k := (k : Int)) (by omega) (by omega)
    have hme : mixA b (k : Int) = b (10 + 2 * k) := by unfold mixA; rw [Int.toNat_natCast]
    rw [mm_serves_93, pl_1', if_neg (by omega), pmixIn μ (by omega) (by omega), sb, taste_laid (T := T) (by rw [pl_ne (by decide)]; exact h8) (fun m hm => by rw [pl_ne (by decide)]; exact hT m hm) hm, sb, fjF]
    by_cases c : T (b (10 + 2 * k)) = v
    · rw [if_pos (by rw [hme]; exact c), if_pos c, if_neg (by omega)]
    · rw [if_neg (by rw [hme]; exact c), if_neg c, bnd_eq, e3]
      exact ih (k + 1) n (by omega) (by omega)
theorem ms119_eq (μ : Mem) {b : Nat → Int} {t k : Int} (w : Wf b t) (h0 : 0 ≤ t) (ht : t ≤ 1000000000) (hk : 0 ≤ k ∧ k < b 8) : mm_serves_119 k (mixA b k) (pl μ b) = some ((sSell b k).1, pl μ (sSell b k).2) := by
  have w8 := w.2.1
  have m1 := mixA_M w hk.1 hk.2
  have u1 := un_b (mixA b k)
  have p1 := prc_b w.1 (mixA b k)
  have t54 := ab w 54 (by omega) (by omega)
  have t57 := ab w 57 (by omega) (by omega)
  have t58 := ab w 58 (by omega) (by omega)
  rw [mm_serves_119, pprice μ w.1 m1, sb, sb, half (by omega), w32_eq (by omega) (by omega), bnd_eq, units_eq m1, sb, bnd_eq, pl_1', w32_eq (by omega) (by omega), mst_pl1, bnd_eq, pl_1', up_ne (by omega), w32_eq (by omega) (by omega), mst_pl1, bnd_eq, pl_1', up_ne (by omega), up_ne (by omega), w32_eq (by omega) (by omega), mst_pl1, pdropJar μ (by rw [up_ne (by omega), up_ne (by omega), up_ne (by omega)]; omega) (by rw [up_ne (by omega), up_ne (by omega), up_ne (by omega)]; omega), sb, sSell]
noncomputable def sServe (a : Nat → Int) : Int × (Nat → Int) := if a 43 = 0 then (-5, a) else if fjF (drw a) (tau (sp a)) (tau (sp a) (a 44)) (a 8).toNat 0 = -5 then (0, up (drw a) 59 (drw a 59 + 1)) else sSell (drw a) (fjF (drw a) (tau (sp a)) (tau (sp a) (a 44)) (a 8).toNat 0)
theorem mserves_eq (μ : Mem) {a : Nat → Int} {t : Int} (w : Wf a t) (h0 : 0 ≤ t) (ht : t ≤ 1000000000) (h8 : μ 0 8 = 1) (hT : ∀ m, isM m → μ 7 m.toNat = tau (sp a) m) : mm_serves (pl μ a) = some ((sServe a).1, pl μ (sServe a).2) := by
  have h43 := w.2.2.2.2.2.2.1
  rw [mm_serves, pl_1', sServe]
  by_cases c : a 43 = 0
  · rw [if_pos c, if_pos c]
  · have wd := Wf_drw w (by omega)
    have hd8 : drw a 8 = a 8 := drw_o (by omega) h43.2 (by omega)
    have m44 : isM (a 44) := w.2.2.2.2.2.2.2.1 0 (by omega)
    rw [if_neg c, if_neg c, pl_1', taste_laid (T := tau (sp a)) (by rw [pl_ne (by decide)]; exact h8) (fun m hm => by rw [pl_ne (by decide)]; exact hT m hm) m44, sb, bnd_eq, bnd_eq]
    show mm_serves_38 FU (tau (sp a) (a 44)) 0 (mst (pl μ a) 1 43 (w32 (pl μ a 1 43 - 1))) = _
    rw [pl_1', w32_eq (by omega) (by omega), mst_pl1]
    have hl := mdw_lp (μ := μ) (a := a) (x := tau (sp a) (a 44)) (m := a 43 - 1) (by omega) (a 43 - 1).toNat FU 0 (up a 43 (a 43 - 1)) (by omega) (by omega) (by have := FU_ge; omega) (up_same _ _ _) (fun q => by
      unfold up
      by_cases c : q = 43
      · rw [if_pos c, if_pos c]
      · rw [if_neg c, if_neg c, if_neg (by omega)])
    rw [hl]
    have hdr : (fun q : Nat => if q = 43 then a 43 - 1 else if 44 ≤ (q : Int) ∧ (q : Int) < 44 + (a 43 - 1) then a (q + 1) else if (q : Int) = 44 + (a 43 - 1) then 0 else a q) = drw a := rfl
    rw [hdr]
    have hs := ms93_lp (μ := μ) (b := drw a) (T := tau (sp a)) (v := tau (sp a) (a 44)) wd h8 hT (a 8).toNat 0 FU (by have := w.2.1; omega) (by have := FU_ge; have := w.2.1; omega)
    rw [show ((0 : Nat) : Int) = 0 from rfl] at hs
    rw [hs]
    have hb := fjF_b (drw a) (tau (sp a)) (tau (sp a) (a 44)) (a 8).toNat 0
    by_cases c2 : fjF (drw a) (tau (sp a)) (tau (sp a) (a 44)) (a 8).toNat 0 = -5
    · have t59 := ab wd 59 (by omega) (by omega)
      rw [if_pos c2, if_pos c2, mm_serves_185, bnd_eq, pl_1', w32_eq (by omega) (by omega), mst_pl1]
    · rw [if_neg c2, if_neg c2]
      exact ms119_eq μ wd h0 ht (by have := w.2.1; omega)
theorem xfj_lp {ν : Mem} {b : Nat → Int} {r : Nat → Int} {k0 : Nat} {t v : Int} (w : Wf b t) (S : SRel b ν 10) (L : LK ν r k0) (j : Nat) : ∀ (k n : Nat), (k : Int) + j = b 8 → j < n → xt_firstJarLike_2 n v k ν = some (fjF b (tau (spn r (-5) k0)) v j k) := by
  have w8 := w.2.1
  induction j with
  | zero =>
    intro k n hk hn
    obtain ⟨n, rfl⟩ : ∃ m, n = m + 1 := ⟨n - 1, by omega⟩
    rw [xt_firstJarLike_2, S.1, if_pos (by omega), xt_firstJarLike_32, fjF]
  | succ j ih =>
    intro k n hk hn
    obtain ⟨n, rfl⟩ : ∃ m, n = m + 1 := ⟨n - 1, by omega⟩
    have e3 : w32 ((k : Int) + 1) = ((k + 1 : Nat) : Int) := by rw [w32_eq (by omega) (by omega)]; omega
    have hm : isM (b (10 + 2 * k)) := (w.2.2.1 k (by omega)).1
    rw [xt_firstJarLike_2, S.1, if_neg (by omega), aget_eq (by omega) (by omega), sb, Int.toNat_natCast, (S.2.2.2.2.1 k (by omega)).2, leastLike_eq L hm, sb, fjF]
    by_cases c : tau (spn r (-5) k0) (b (10 + 2 * k)) = v
    · rw [if_pos c, if_pos c, xt_firstJarLike_24]
    · rw [if_neg c, if_neg c, bnd_eq, e3]
      exact ih (k + 1) n (by omega) (by omega)
theorem xserve_eq {ν : Mem} {a : Nat → Int} {t : Int} (S : SRel a ν 10) (T : TI ν) (w : Wf a t) (h0 : 0 ≤ t) (ht : t ≤ 1000000000) : ∃ ν', xa_serveFirst ν = some ((sServe a).1, ν') ∧ SRel (sServe a).2 ν' 10 ∧ XF ν ν' ∧ TI ν' := by
  have h43 := w.2.2.2.2.2.2.1
  have h34 := w.2.2.2.2.1
  rw [xa_serveFirst, S.2.2.2.1, sServe]
  by_cases c : a 43 = 0
  · rw [if_pos c, if_pos c]
    exact ⟨ν, rfl, S, XF_rf ν, T⟩
  · have wd := Wf_drw w (by omega)
    have hd8 : drw a 8 = a 8 := drw_o (by omega) h43.2 (by omega)
    have m44 : isM (a 44) := w.2.2.2.2.2.2.2.1 0 (by omega)
    rw [if_neg c, if_neg c]
    obtain ⟨ν1, e1, S1, f1⟩ := xremWant_eq S w (by omega)
    obtain ⟨ν2, e2, L2, f2⟩ := learn_a wd S1 (TI_fr f1 T)
    have L3 : LK ν2 (rf a) (rn a) := by
      have h := LK_cong (r := rf a) L2 (fun p hp => by
        unfold rf rn at *
        rw [drw_o (by omega) h43.2 (by omega)] at hp
        exact (drw_o (by omega) h43.2 (by omega)).symm)
      have e : rn (drw a) = rn a := by unfold rn; rw [drw_o (by omega) h43.2 (by omega)]
      rwa [e] at h
    have S2 : SRel (drw a) ν2 10 := SRel_fr S1 (fun p q h1 h2 => f2 p q (by omega) (by omega) (by omega) (by omega))
    have F2 : XF ν ν2 := XF_tr (fr_XF f1) (l_XF f2)
    have hf := xfj_lp (v := tau (sp a) (a 44)) wd S2 L3 (a 8).toNat 0 FU (by have := w.2.1; omega) (by have := FU_ge; have := w.2.1; omega)
    rw [show ((0 : Nat) : Int) = 0 from rfl, show spn (rf a) (-5) (rn a) = sp a from rfl] at hf
    have hb := fjF_b (drw a) (tau (sp a)) (tau (sp a) (a 44)) (a 8).toNat 0
    have hl := leastLike_eq L3 m44
    rw [show spn (rf a) (-5) (rn a) = sp a from rfl] at hl
    rw [e1, sb, bnd_eq, e2, sb, hl, sb, xt_firstJarLike, hf, sb]
    by_cases c2 : fjF (drw a) (tau (sp a)) (tau (sp a) (a 44)) (a 8).toNat 0 = -5
    · have t59 := ab wd 59 (by omega) (by omega)
      rw [if_pos c2, if_neg (by omega), bnd_eq, show ν2 16 7 = drw a 59 from sacc S2 (by omega), w32_eq (by omega) (by omega)]
      have f3 : fr ν2 (mst ν2 16 7 (drw a 59 + 1)) := fr_mst (fr_rf ν2) (by omega)
      exact ⟨_, rfl, srel_acc S2 (wf3 wd) (k := 7) (by omega) _, XF_tr F2 (fr_XF f3), TI_fr f3 ⟨_, _, L3⟩⟩
    · rw [if_neg c2, if_pos (by omega)]
      obtain ⟨ν3, e3, S3, f3⟩ := xsell_eq (k := fjF (drw a) (tau (sp a)) (tau (sp a) (a 44)) (a 8).toNat 0) S2 wd h0 ht (by have := w.2.1; omega)
      rw [e3, sb]
      exact ⟨ν3, rfl, S3, XF_tr F2 (fr_XF f3), TI_fr f3 ⟨_, _, L3⟩⟩
theorem Wf_sServe {a : Nat → Int} {t : Int} (w : Wf a t) (h0 : 0 ≤ t) : Wf (sServe a).2 (t + 10000) := by
  have h43 := w.2.2.2.2.2.2.1
  have w8 := w.2.1
  rw [sServe]
  by_cases c : a 43 = 0
  · rw [if_pos c]; exact Wf_mono w (by omega)
  · have wd := Wf_drw w (by omega)
    have hd8 : drw a 8 = a 8 := drw_o (by omega) h43.2 (by omega)
    have hb := fjF_b (drw a) (tau (sp a)) (tau (sp a) (a 44)) (a 8).toNat 0
    have t59 := ab wd 59 (by omega) (by omega)
    rw [if_neg c]
    split
    · exact Wf_acu wd (by omega) (by omega) (by omega)
    · exact Wf_sSell wd h0 (by omega)
theorem sServe_s {a : Nat → Int} {t : Int} (w : Wf a t) : (sServe a).1 < 0 → (sServe a).2 = a := by
  have h43 := w.2.2.2.2.2.2.1
  rw [sServe]
  by_cases c : a 43 = 0
  · rw [if_pos c]; intro _; rfl
  · have wd := Wf_drw w (by omega)
    rw [if_neg c]
    split
    · intro h; exact absurd h (by show ¬ (0 : Int) < 0; decide)
    · intro h
      exfalso
      rw [sSell] at h
      have p1 := prc_b wd.1 (mixA (drw a) (fjF (drw a) (tau (sp a)) (tau (sp a) (a 44)) (a 8).toNat 0))
      have h2 : prc (drw a) (mixA (drw a) (fjF (drw a) (tau (sp a)) (tau (sp a) (a 44)) (a 8).toNat 0)) + prc (drw a) (mixA (drw a) (fjF (drw a) (tau (sp a)) (tau (sp a) (a 44)) (a 8).toNat 0)) / 2 < 0 := h
      omega
theorem sim_serve : SIM mm_serve xx_serve := by
  intro μ ν t h0 ht M X
  obtain ⟨μL, eL, ML, K, h8, LD'⟩ := lay_MI M
  have XL := KP_XI K X (XF_rf ν) (fun _ _ _ _ => rfl) X.2.1
  have k1 := KP_1 K
  obtain ⟨μ1, μ', ν1, ν2, ν', e1, h1, e3, e4, e5, e6, M', X', ha, _⟩ := ord_pair (u := t + 1500000) (a' := (sServe (μL 1)).2) (v := (sServe (μL 1)).1) (v' := (sServe (μL 1)).1) (Fx := xa_serveFirst) ML XL
    (fun τ hτ T => xserve_eq hτ T ML.1 h0 (by omega)) Iff.rfl (sServe_s ML.1) (Wf_mono (Wf_sServe ML.1 h0) (by omega)) (by omega)
  have hf : ∀ p q, p ≠ 2 → μ1 p q = μL p q := by
    obtain ⟨σ, s1, s2, s3⟩ := aside_eq μL
    rw [s1] at e1
    rw [← Option.some.inj e1]
    exact s3
  have e2 := mserves_eq μ1 ML.1 h0 (by omega) (by rw [hf _ _ (by decide)]; exact h8) (fun m hm => by rw [hf _ _ (by decide), LD'.2.1 m hm, k1]; rfl)
  rw [pl_of h1] at e2
  rw [mm_serve, eL, sb, e1, sb, e2, sb, e3, sb, xx_serve, e4, sb, e5, sb, e6, sb]
  exact ⟨_, _, _, rfl, rfl, M', X'⟩
