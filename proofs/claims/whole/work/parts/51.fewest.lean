/-! makes and fewest, in both -/
theorem SM_0 (g : Nat → Int) (i : Nat) : SM g i 0 = 0 := by
  induction i with
  | zero => rfl
  | succ i ih =>
    have := tw_pos i
    rw [SM, if_neg (by omega)]
    exact ih
theorem sums_M {μ : Mem} {t : Int} (M : MI μ t) : ∃ μ', mm_laySums μ = some (((tw (μ 1 8).toNat : Nat) : Int), μ') ∧ (∀ m, m < tw (μ 1 8).toNat → μ' 10 m = SM (fun k => μ 1 (10 + 2 * k)) (μ 1 8).toNat m) ∧ (∀ p q, p ≠ 10 → μ' p q = μ p q) ∧ μ' 10 0 = 0 := by
  have w8 := M.1.2.1
  have z := M.2.2.2.2.2.2.2
  obtain ⟨μ', e, r, f⟩ := mls4_lp M.1 (μ 1 8).toNat 0 FU μ (by omega) (by have := FU_ge; omega) rfl (fun m hm => by
    rw [tw] at hm
    rw [show m = 0 by omega, SM]; exact z)
  refine ⟨μ', by rw [mm_laySums]; exact e, r, f, ?_⟩
  rw [r 0 (tw_pos _), SM_0]
theorem MI_sum {μ μ' : Mem} {t : Int} (M : MI μ t) (f : ∀ p q, p ≠ 9 → p ≠ 10 → μ' p q = μ p q) (h0 : μ' 10 0 = 0) : MI μ' t := by
  obtain ⟨m1, m2, m3, m4, m5, m6, m7⟩ := M
  have e1 : μ' 1 = μ 1 := by funext q; exact f _ _ (by decide) (by decide)
  have h44 : μ' 4 = μ 4 := by funext q; exact f _ _ (by decide) (by decide)
  have kk : ∀ i, hr μ' i = hr μ i := fun i => by funext j; unfold hr; exact f _ _ (by decide) (by decide)
  have f0 : ∀ q, μ' 0 q = μ 0 q := fun q => f _ _ (by decide) (by decide)
  refine ⟨by rw [e1]; exact m1, by rw [f0]; exact m2, fun i hi => ?_, by rw [f0, h44]; exact m4, by rw [f0]; exact m5, fun i hi => ?_, LD_fr m7 e1 (fun q => f _ _ (by decide) (by decide)) (fun q => f _ _ (by decide) (by decide)) (f0 _) (f0 _) (by rw [h0, m7.2])⟩
  · rw [f0] at hi; rw [kk]; exact m3 i hi
  · rw [f0] at hi; rw [f _ _ (by decide) (by decide)]; exact m6 i hi
theorem spread_X {a : Nat → Int} {ν : Mem} {t : Int} (w : Wf a t) (S : SRel a ν 10) (L : LK ν (rf a) (rn a)) : ∃ ν', xc_spread ν = some ν' ∧ ν' 66 2 = (tw (a 8).toNat : Nat) ∧ (∀ m, m < tw (a 8).toNat → ν' 67 m = tau (sp a) (SM (fun k => a (10 + 2 * k)) (a 8).toNat m)) ∧ LK ν' (rf a) (rn a) ∧ QF ν ν' := by
  have w8 := w.2.1
  have fr1 : ∀ p q, p ≠ 66 → p ≠ 67 → mst (mst ν 67 0 0) 66 2 1 p q = ν p q := fun p q h6 h7 => by rw [mst_pl h6, mst_pl h7]
  have L1 : LK (mst (mst ν 67 0 0) 66 2 1) (rf a) (rn a) := LK_fr L (fun q => fr1 _ _ (by decide) (by decide)) (fun q => fr1 _ _ (by decide) (by decide)) (fun q => fr1 _ _ (by decide) (by decide)) (fun q => fr1 _ _ (by decide) (by decide)) (fun q => fr1 _ _ (by decide) (by decide))
  obtain ⟨ν', e, h66, r, f⟩ := xsp14_lp (k0 := rn a) (r := rf a) w (a 8).toNat 0 FU (mst (mst ν 67 0 0) 66 2 1) (by omega) (by have := FU_ge; omega) (SRel_fr S (fun p q _ _ => fr1 p q (by omega) (by omega))) L1 (by rw [mst_same]; rfl) (fun m hm => by
    rw [tw] at hm
    rw [show m = 0 by omega, SM, mst_pl (by decide), mst_same])
  rw [show ((0 : Nat) : Int) = 0 from rfl] at e
  have F : ∀ p q, p ≠ 66 → p ≠ 67 → ν' p q = ν p q := fun p q h6 h7 => by rw [f p q h6 h7, fr1 p q h6 h7]
  refine ⟨ν', ?_, h66, fun m hm => ?_, LK_fr L (fun q => F _ _ (by decide) (by decide)) (fun q => F _ _ (by decide) (by decide)) (fun q => F _ _ (by decide) (by decide)) (fun q => F _ _ (by decide) (by decide)) (fun q => F _ _ (by decide) (by decide)), QF_of (fun p q hp => F p q (by omega) (by omega))⟩
  · rw [xc_spread, n16_id (x := 0) (by omega), aput_eq (by omega) (by omega), sb, bnd_eq]
    exact e
  · rw [r m hm]
    exact SM_tau (S := sp a) (g := fun k => a (10 + 2 * k)) L.2.2.2.1 (sp_sg a) L.2.2.2.2.1 (a 8).toNat m (fun k hk => (w.2.2.1 k (by omega)).1)
theorem sum_end {μ μ1 μ' ν ν' : Mem} {t : Int} (X : XI ν μ) (M1 : MI μ1 t) (K : KP μ μ1) (f : ∀ p q, p ≠ 9 → p ≠ 10 → μ' p q = μ1 p q) (h0 : μ' 10 0 = 0) (F : QF ν ν') (T : TI ν') : MI μ' (t + 1500000) ∧ XI ν' μ' := by
  have e1 : μ' 1 = μ 1 := by rw [← KP_1 K]; funext q; exact f _ _ (by decide) (by decide)
  have g : ∀ p q, p ≠ 0 → p ≠ 6 → p ≠ 7 → p ≠ 8 → p ≠ 9 → p ≠ 10 → μ' p q = μ p q := fun p q a b c d e h => by rw [f p q e h, K.1 p q a b c d e]
  refine ⟨MI_mono (MI_sum M1 f h0) (by omega), stay_XI X (QF_XF F) (by rw [e1]; exact q_SRel X.1 F) T (fun q h8 h9 => by rw [f _ _ (by decide) (by decide), K.2 q h8 h9]) (fun q => g _ _ (by decide) (by decide) (by decide) (by decide) (by decide) (by decide)) (fun q => g _ _ (by decide) (by decide) (by decide) (by decide) (by decide) (by decide)) (fun q => g _ _ (by decide) (by decide) (by decide) (by decide) (by decide) (by decide))⟩
theorem sim_makes : SIM mm_makes xx_makes := by
  intro μ ν t h0 ht M X
  have w8 := M.1.2.1
  obtain ⟨μ1, e1, M1, K1, h8, LD1⟩ := lay_MI M
  have k1 := KP_1 K1
  obtain ⟨μ2, e2, s2, f2, z2⟩ := sums_M M1
  rw [k1] at e2 s2
  have hN := tw_le (k := (μ 1 8).toNat) (by omega)
  obtain ⟨μ3, e3, s3, f3⟩ := mk11_lp (x := ((tw (μ 1 8).toNat : Nat) : Int)) 6561 0 FU μ2 (by omega) (by have := FU_ge; omega) (fun q hq => by omega)
  obtain ⟨μ4, e4, f4⟩ := mk35_lp (T := tau (sp (μ 1))) (s := fun m => SM (fun k => μ 1 (10 + 2 * k)) (μ 1 8).toNat m) hN (fun m _ => SM_M _ _ m) (fun m hm => (tau_is (sp_sg _) hm).1) (tw (μ 1 8).toNat) 0 FU μ3 (by omega) (by have := FU_ge; omega) (fun m hm => by rw [f3 _ _ (by decide)]; exact s2 m hm) (fun m hm => by rw [f3 _ _ (by decide), f2 _ _ (by decide)]; exact LD1.2.1 m hm) (fun v hv => by
    rw [s3 _ (by have := hv.1; have := hv.2; omega), bi_neg (by rintro ⟨m, h, _⟩; omega)])
  rw [dst, show ((0 : Nat) : Int) = 0 from rfl] at e4
  rw [show ((0 : Nat) : Int) = 0 from rfl] at e3
  obtain ⟨ν1, g1, L1, F1⟩ := learn_Q M.1 X.1 X.2.1
  obtain ⟨ν2, g2, h66, r2, L2, F2⟩ := spread_X M.1 (q_SRel X.1 F1) L1
  obtain ⟨ν3, g3, r3, f3x⟩ := xfill_lp (x := 0) 206 0 FU ν2 (by omega) (by have := FU_ge; omega) (fun q hq => by omega)
  rw [show ((0 : Nat) : Int) = 0 from rfl] at g3
  obtain ⟨ν4, g4, f4x⟩ := xdt_lp (f := fun m => tau (sp (μ 1)) (SM (fun k => μ 1 (10 + 2 * k)) (μ 1 8).toNat m)) hN (fun m _ => (tau_is (sp_sg _) (SM_M _ _ m)).1) (tw (μ 1 8).toNat) 0 FU ν3 (by omega) (by have := FU_ge; omega) (by rw [f3x _ _ (by decide)]; exact h66) (fun m hm => by rw [f3x _ _ (by decide)]; exact r2 m hm) (fun v hv => by
    rw [r3 _ (by have := hv.1; have := hv.2; omega), bt_0]
    exact ⟨fun h => absurd h (by decide), fun ⟨m, h, _⟩ => by omega⟩)
  rw [dst, show ((0 : Nat) : Int) = 0 from rfl] at g4
  rw [mm_makes, e1, sb, e2, sb, bnd_eq, xx_makes, g1, sb, g2, sb, xc_differentTastes, jf_fill_c68, g3, sb, g4, sb]
  have F4 : ∀ p q, p ≠ 68 → ν4 p q = ν2 p q := fun p q h => by rw [f4x p q h, f3x p q h]
  have L4 := LK_fr L2 (fun q => F4 2 q (by decide)) (fun q => F4 3 q (by decide)) (fun q => F4 4 q (by decide)) (fun q => F4 5 q (by decide)) (fun q => F4 7 q (by decide))
  refine ⟨_, _, _, e3.trans e4, rfl, sum_end X M1 K1 (fun p q h9 h10 => by rw [f4 p q h9, f3 p q h9, f2 p q h10]) (by rw [f4 _ _ (by decide), f3 _ _ (by decide)]; exact z2) (QF_tr F1 (QF_tr F2 (QF_of (fun p q hp => F4 p q (by omega))))) ⟨_, _, L4⟩⟩
/-- the fewest -/
noncomputable def fwF (f : Nat → Int) (v : Int) : Nat → Nat → Int → Int
  | 0, _, c => c
  | j + 1, k, c => fwF f v j (k + 1) (if f k = v then (if c = -5 then (k : Int) else if popF 12 c.toNat ≤ popF 12 k then c else (k : Int)) else c)
theorem fwF_b (f : Nat → Int) (v : Int) (j : Nat) : ∀ (k : Nat) (c : Int), (c = -5 ∨ (0 ≤ c ∧ c < k)) → (fwF f v j k c = -5 ∨ (0 ≤ fwF f v j k c ∧ fwF f v j k c < ((k + j : Nat) : Int))) := by
  induction j with
  | zero => intro k c h; rw [fwF]; exact h.imp id (fun z => ⟨z.1, by omega⟩)
  | succ j ih =>
    intro k c h
    rw [fwF, show k + (j + 1) = k + 1 + j by omega]
    refine ih (k + 1) _ ?_
    split
    · split
      · right; omega
      · split
        · rcases h with h | h
          · exact Or.inl h
          · right; omega
        · right; omega
    · rcases h with h | h
      · exact Or.inl h
      · right; omega
theorem mfw_lp {T : Int → Int} {s : Nat → Int} {N : Nat} {v x2 : Int} (hN : N ≤ 4096) (hs : ∀ m, m < N → isM (s m)) {μ : Mem} (h10 : ∀ m, m < N → μ 10 m = s m) (h7 : ∀ m, isM m → μ 7 m.toNat = T m) (j : Nat) : ∀ (k n : Nat) (c : Int), k + j = N → j < n → (c = -5 ∨ (0 ≤ c ∧ c < k)) → mm_fewest_38 n x2 v (N : Nat) c k μ = mm_fewest_108 x2 (fwF (fun m => T (s m)) v j k c) μ := by
  induction j with
  | zero =>
    intro k n c hk hn hc
    obtain ⟨n, rfl⟩ : ∃ m, n = m + 1 := ⟨n - 1, by omega⟩
    rw [mm_fewest_38, if_pos (by omega), fwF]
  | succ j ih =>
    intro k n c hk hn hc
    obtain ⟨n, rfl⟩ : ∃ m, n = m + 1 := ⟨n - 1, by omega⟩
    have e3 : w32 ((k : Int) + 1) = ((k + 1 : Nat) : Int) := by rw [w32_eq (by omega) (by omega)]; omega
    have sk := hs k (by omega)
    rw [mm_fewest_38, if_neg (by omega), aget_eq (by omega) (by omega), sb, Int.toNat_natCast, h10 k (by omega), aget_eq sk.1 (by omega), sb, h7 _ sk, fwF]
    by_cases d : T (s k) = v
    · rw [if_pos d, if_pos d]
      by_cases c5 : c = -5
      · rw [if_pos c5, if_pos c5, mm_fewest_81, mm_fewest_86, if_neg (by decide), mm_fewest_100, bnd_eq, e3]
        exact ih (k + 1) n _ (by omega) (by omega) (by omega)
      · have hc' := hc.resolve_left c5
        obtain ⟨cn, rfl⟩ := Int.eq_ofNat_of_zero_le hc'.1
        rw [if_neg c5, if_neg c5, msize_eq (m := k) (by omega), sb, msize_eq (m := cn) (by omega), sb, Int.toNat_natCast]
        by_cases d2 : popF 12 cn ≤ popF 12 k
        · rw [if_pos d2, if_pos d2, mm_fewest_85, mm_fewest_86, if_pos rfl, mm_fewest_100, bnd_eq, e3]
          exact ih (k + 1) n _ (by omega) (by omega) (by omega)
        · rw [if_neg d2, if_neg d2, mm_fewest_81, mm_fewest_86, if_neg (by decide), mm_fewest_100, bnd_eq, e3]
          exact ih (k + 1) n _ (by omega) (by omega) (by omega)
    · rw [if_neg d, if_neg d, mm_fewest_85, mm_fewest_86, if_pos rfl, mm_fewest_100, bnd_eq, e3]
      exact ih (k + 1) n _ (by omega) (by omega) (by omega)
theorem xfw_lp {f : Nat → Int} {N : Nat} {v : Int} (hN : N ≤ 4096) {μ : Mem} (h66 : μ 66 2 = (N : Nat)) (h67 : ∀ m, m < N → μ 67 m = f m) (j : Nat) : ∀ (k n : Nat) (c : Int), k + j = N → j < n → (c = -5 ∨ (0 ≤ c ∧ c < k)) → xc_smallestLike_9 n v c (if c = -5 then 13 else popF 12 c.toNat) k μ = some (fwF f v j k c) := by
  induction j with
  | zero =>
    intro k n c hk hn hc
    obtain ⟨n, rfl⟩ : ∃ m, n = m + 1 := ⟨n - 1, by omega⟩
    rw [xc_smallestLike_9, h66, if_pos (by omega), xc_smallestLike_53, fwF]
  | succ j ih =>
    intro k n c hk hn hc
    obtain ⟨n, rfl⟩ : ∃ m, n = m + 1 := ⟨n - 1, by omega⟩
    have e3 : w32 ((k : Int) + 1) = ((k + 1 : Nat) : Int) := by rw [w32_eq (by omega) (by omega)]; omega
    have pb := popF_b 12 k
    have ik := ih (k + 1) n (k : Int) (by omega) (by omega) (by omega)
    rw [if_neg (show ¬ (k : Int) = -5 by omega), Int.toNat_natCast] at ik
    have ic := ih (k + 1) n c (by omega) (by omega) (by omega)
    rw [xc_smallestLike_9, h66, if_neg (by omega), aget_eq (by omega) (by omega), sb, Int.toNat_natCast, h67 k (by omega), fwF]
    by_cases d : f k = v
    · rw [if_pos d, if_pos d, bitc_eq (m := k) (by omega), sb]
      by_cases c5 : c = -5
      · rw [if_pos c5, if_pos c5, if_neg (by omega), sb, xc_smallestLike_47, bnd_eq, e3]
        exact ik
      · rw [if_neg c5] at ic ⊢
        rw [if_neg c5]
        by_cases d2 : popF 12 c.toNat ≤ popF 12 k
        · rw [if_pos d2, if_pos d2, xc_smallestLike_47, bnd_eq, e3]
          exact ic
        · rw [if_neg d2, if_neg d2, sb, xc_smallestLike_47, bnd_eq, e3]
          exact ik
    · rw [if_neg d, if_neg d, xc_smallestLike_47, bnd_eq, e3]
      exact ic
theorem sim_fewest (x v : Int) : SIM (mm_fewest x v) (xx_fewest x v) := by
  intro μ ν t h0 ht M X
  have keep : MI μ (t + 1500000) ∧ XI ν μ := ⟨MI_mono M (by omega), X⟩
  have hne : ¬ (1 : Int) = 0 := by decide
  have w8 := M.1.2.1
  rw [mm_fewest, xx_fewest, isMix_eq, sb, xisMix_eq, sb]
  by_cases m1 : isM x
  · rw [if_pos m1, if_neg hne, if_neg hne, in_eq, sb]
    by_cases c2 : 0 ≤ v ∧ v ≤ 1
    · rw [if_pos c2, if_neg hne, if_neg (show ¬ v < 0 by omega), if_pos c2.2]
      obtain ⟨μ1, e1, M1, K1, h8, LD1⟩ := taste_MI M m1
      have k1 := KP_1 K1
      obtain ⟨μ2, e2, s2, f2, z2⟩ := sums_M M1
      rw [k1] at e2 s2
      have hN := tw_le (k := (μ 1 8).toNat) (by omega)
      have e3 := mfw_lp (T := tau (sp (μ 1))) (s := fun m => SM (fun k => μ 1 (10 + 2 * k)) (μ 1 8).toNat m) (v := tau (sp (μ 1)) x) (x2 := v) hN (fun m _ => SM_M _ _ m) (μ := μ2) s2 (fun m hm => by rw [f2 _ _ (by decide)]; exact LD1.2.1 m hm) (tw (μ 1 8).toNat) 0 FU (-5) (by omega) (by have := FU_ge; omega) (Or.inl rfl)
      obtain ⟨ν1, g1, L1, F1⟩ := learn_Q M.1 X.1 X.2.1
      obtain ⟨ν2, g2, h66, r2, L2, F2⟩ := spread_X M.1 (q_SRel X.1 F1) L1
      have g3 := leastLike_eq L2 m1
      have g4 := xfw_lp (f := fun m => tau (sp (μ 1)) (SM (fun k => μ 1 (10 + 2 * k)) (μ 1 8).toNat m)) (v := tau (sp (μ 1)) x) hN h66 r2 (tw (μ 1 8).toNat) 0 FU (-5) (by omega) (by have := FU_ge; omega) (Or.inl rfl)
      rw [if_pos rfl, show ((0 : Nat) : Int) = 0 from rfl] at g4
      rw [show ((0 : Nat) : Int) = 0 from rfl] at e3
      rw [show spn (rf (μ 1)) (-5) (rn (μ 1)) = sp (μ 1) from rfl] at g3
      have fin := sum_end X M1 K1 (fun p q _ h10 => f2 p q h10) z2 (QF_tr F1 F2) ⟨_, _, L2⟩
      have hb := fwF_b (fun m => tau (sp (μ 1)) (SM (fun k => μ 1 (10 + 2 * k)) (μ 1 8).toNat m)) (tau (sp (μ 1)) x) (tw (μ 1 8).toNat) 0 (-5) (Or.inl rfl)
      rw [e1, sb, bnd_eq, e2, sb, bnd_eq]
      have e3' : mm_fewest_38 FU v (tau (sp (μ 1)) x) ((tw (μ 1 8).toNat : Nat) : Int) (-5) 0 μ2 = _ := e3
      rw [g1, sb, g2, sb, g3, sb, xc_smallestLike, g4, sb]
      show ∃ r μ' ν', mm_fewest_38 FU v (tau (sp (μ 1)) x) ((tw (μ 1 8).toNat : Nat) : Int) (-5) 0 μ2 = some (r, μ') ∧ _
      rw [e3', mm_fewest_108]
      generalize fwF (fun m => tau (sp (μ 1)) (SM (fun k => μ 1 (10 + 2 * k)) (μ 1 8).toNat m)) (tau (sp (μ 1)) x) (tw (μ 1 8).toNat) 0 (-5) = z at hb
      by_cases c5 : z = -5
      · rw [if_pos c5, mm_fewest_134, if_neg (show ¬ 0 ≤ z by omega)]
        exact ⟨_, _, _, rfl, rfl, fin⟩
      · have hz := hb.resolve_left c5
        rw [if_neg c5, if_pos (show 0 ≤ z by omega)]
        by_cases c6 : v = 0
        · obtain ⟨zn, hzn⟩ := Int.eq_ofNat_of_zero_le hz.1
          rw [if_pos c6, if_pos c6, hzn, msize_eq (m := zn) (by omega), sb, mm_fewest_134, bitc_eq (m := zn) (by omega), sb, xx_fewest_80]
          exact ⟨_, _, _, rfl, rfl, fin⟩
        · rw [if_neg c6, if_neg c6, mm_fewest_134, xx_fewest_80]
          exact ⟨_, _, _, rfl, rfl, fin⟩
    · rw [if_neg c2, if_pos rfl, mm_fewest_16]
      by_cases c3 : v < 0
      · rw [if_pos c3, xx_fewest_16]
        exact ⟨_, _, _, rfl, rfl, keep⟩
      · rw [if_neg c3, if_neg (show ¬ v ≤ 1 by omega), xx_fewest_16]
        exact ⟨_, _, _, rfl, rfl, keep⟩
  · rw [if_neg m1, if_pos rfl, if_pos rfl, mm_fewest_16, xx_fewest_16]
    exact ⟨_, _, _, rfl, rfl, keep⟩
