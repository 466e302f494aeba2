/-! what the questions answer -/
noncomputable def chp (a : Nat → Int) (m : Int) : Int := @dite Int (∃ d, IsC (sp a) a m d) (Classical.propDecidable _) (fun h => Classical.choose h) (fun _ => 0)
theorem chp_of {a : Nat → Int} {m d : Int} (h : IsC (sp a) a m d) : chp a m = d := by
  have hx : ∃ d, IsC (sp a) a m d := ⟨d, h⟩
  unfold chp
  rw [dif_pos hx]
  exact isC_un (Classical.choose_spec hx) h
noncomputable def nsh (a : Nat → Int) : Int := shC a (tau (sp a)) ((a 8).toNat + 1) (nx a (tau (sp a)) (-1))
noncomputable def shv (a : Nat → Int) (k : Nat) : Int := itN a (tau (sp a)) k (nx a (tau (sp a)) (-1))
noncomputable def fwx (a : Nat → Int) (m : Int) : Int := fwF (fun s => tau (sp a) (SM (fun k => a (10 + 2 * k)) (a 8).toNat s)) (tau (sp a) m) (tw (a 8).toNat) 0 (-5)
noncomputable def mkx (a : Nat → Int) : Int := dst (fun s => tau (sp a) (SM (fun k => a (10 + 2 * k)) (a 8).toNat s)) (tw (a 8).toNat)
section ASK
variable {a : Nat → Int} {ob : Option (Nat → Int)} {t : Int} {ν : Mem}
theorem ST_JT (h : ST a ob t ν) : JT ν := by
  obtain ⟨r, k, L⟩ := h.1.2.2.1
  exact L.1
theorem sQ (h : ST a ob t ν) : AN (xx_strength ν) (sr a) (ST a ob t) := by
  obtain ⟨ν', e, T, f⟩ := strength_X h.1.1 h.1.2.1 h.1.2.2.1
  exact ⟨ν', e, ST_q h T (QF_of (fun p q hp => f p q (by omega) (by omega) (by omega) (by omega)))⟩
theorem q_c0 (h : ST a ob t ν) : AN (xx_count 0 ν) (a 8) (ST a ob t) := by
  show AN (some (ν 10 2, ν)) _ _
  rw [h.1.2.1.1]
  exact AN.ret h
theorem q_c1 (h : ST a ob t ν) : AN (xx_count 1 ν) (a 34) (ST a ob t) := by
  show AN (some (ν 10 5, ν)) _ _
  rw [h.1.2.1.2.2.1]
  exact AN.ret h
theorem q_c2 (h : ST a ob t ν) : AN (xx_count 2 ν) (sr a) (ST a ob t) := by
  obtain ⟨ν', e, h'⟩ := sQ h
  show AN ((xx_strength ν).bind _) _ _
  rw [e, sb]
  exact AN.ret h'
theorem q_c3 (h : ST a ob t ν) : AN (xx_count 3 ν) (p3 (sr a).toNat) (ST a ob t) := by
  obtain ⟨ν', e, h'⟩ := sQ h
  obtain ⟨k, hk, hs⟩ := sr_8 h.1.1
  show AN ((xx_strength ν).bind _) _ _
  rw [e, sb, hs, pget_eq (by omega), sb, Int.toNat_natCast]
  exact AN.ret h'
theorem q_c4 (h : ST a ob t ν) : AN (xx_count 4 ν) (p3 (8 - (sr a).toNat)) (ST a ob t) := by
  obtain ⟨ν', e, h'⟩ := sQ h
  obtain ⟨k, hk, hs⟩ := sr_8 h.1.1
  have h8 : w32 (8 - (k : Int)) = ((8 - k : Nat) : Int) := by rw [w32_eq (by omega) (by omega)]; omega
  show AN ((xx_strength ν).bind _) _ _
  rw [e, sb, hs, h8, pget_eq (by omega), sb, Int.toNat_natCast]
  exact AN.ret h'
theorem q_c5 (h : ST a ob t ν) : AN (xx_count 5 ν) (nsh a) (ST a ob t) := by
  obtain ⟨ν1, e, L, F⟩ := learn_Q h.1.1 h.1.2.1 h.1.2.2.1
  have h' : ST a ob t ν1 := ST_q h ⟨_, _, L⟩ F
  have w8 := h.1.1.2.1
  have hg := gtF_le a (tau (sp a)) (-1) (a 8).toNat
  have e4 := xshs_lp h.1.1 h'.1.2.1 L (a 8).toNat FU 0 (-1) (by have := FU_ge; omega) (by omega) (by omega) hg (by omega)
  show AN ((xx_shelves ν).bind _) _ _
  rw [xx_shelves, e, sb, xnext_eq h.1.1 h'.1.2.1 L, sb, e4, sb, Int.zero_add]
  exact AN.ret h'
theorem q_c6 (h : ST a ob t ν) : AN (xx_count 6 ν) (a 43) (ST a ob t) := by
  show AN (some (ν 10 8, ν)) _ _
  rw [h.1.2.1.2.2.2.1]
  exact AN.ret h
theorem q_c7 (h : ST a ob t ν) : AN (xx_count 7 ν) (a 52) (ST a ob t) := by
  show AN (some (ν 16 0, ν)) _ _
  rw [sacc h.1.2.1 (k := 0) (by omega)]
  exact AN.ret h
theorem q_c8 (h : ST a ob t ν) : AN (xx_count 8 ν) (a 53) (ST a ob t) := by
  show AN (some (ν 16 1, ν)) _ _
  rw [sacc h.1.2.1 (k := 1) (by omega)]
  exact AN.ret h
theorem q_c9 (h : ST a ob t ν) : AN (xx_count 9 ν) (a 54) (ST a ob t) := by
  show AN (some (ν 16 2, ν)) _ _
  rw [sacc h.1.2.1 (k := 2) (by omega)]
  exact AN.ret h
theorem q_c10 (h : ST a ob t ν) : AN (xx_count 10 ν) (a 55) (ST a ob t) := by
  show AN (some (ν 16 3, ν)) _ _
  rw [sacc h.1.2.1 (k := 3) (by omega)]
  exact AN.ret h
theorem q_c11 (h : ST a ob t ν) : AN (xx_count 11 ν) (unF a (a 8).toNat 0) (ST a ob t) := by
  have w8 := h.1.1.2.1
  have e2 := xuj_lp h.1.1 h.1.2.1 (a 8).toNat 0 FU 0 (by omega) (by have := FU_ge; omega) (by omega) (by omega)
  rw [show ((0 : Nat) : Int) = 0 from rfl, Int.zero_add] at e2
  show AN ((xx_unitsInJars ν).bind _) _ _
  rw [xx_unitsInJars, e2, sb]
  exact AN.ret h
theorem q_c13 (h : ST a ob t ν) : AN (xx_count 13 ν) (a 57) (ST a ob t) := by
  show AN (some (ν 16 5, ν)) _ _
  rw [sacc h.1.2.1 (k := 5) (by omega)]
  exact AN.ret h
theorem q_c14 (h : ST a ob t ν) : AN (xx_count 14 ν) (a 58) (ST a ob t) := by
  show AN (some (ν 16 6, ν)) _ _
  rw [sacc h.1.2.1 (k := 6) (by omega)]
  exact AN.ret h
theorem q_c15 (h : ST a ob t ν) : AN (xx_count 15 ν) (a 59) (ST a ob t) := by
  show AN (some (ν 16 7, ν)) _ _
  rw [sacc h.1.2.1 (k := 7) (by omega)]
  exact AN.ret h
theorem q_rank (h : ST a ob t ν) {k : Nat} (hk : (k : Int) < a 8) : xx_ranked k ν = some (a (9 + 2 * k)) := by
  have w8 := h.1.1.2.1
  rw [xx_ranked, if_pos (by omega), h.1.2.1.1, if_neg (by omega), aget_eq (by omega) (by omega), sb, Int.toNat_natCast, (h.1.2.1.2.2.2.2.1 k hk).1, xx_ranked_32]
theorem q_ruleOf (h : ST a ob t ν) {k : Nat} (hk : (k : Int) < a 34) : xx_ruleOf k ν = some (a (35 + k)) := by
  have w34 := h.1.1.2.2.2.2.1
  rw [xx_ruleOf, if_neg (by omega), h.1.2.1.2.2.1, if_neg (by omega), aget_eq (by omega) (by omega), sb, Int.toNat_natCast, h.1.2.1.2.2.2.2.2.1 k hk, xx_ruleOf_28]
theorem q_wait0 (h : ST a ob t ν) : xx_waiting 0 ν = some (if a 43 ≤ 0 then -5 else a 44) := by
  have w43 := h.1.1.2.2.2.2.2.2.1
  rw [xx_waiting, if_pos (by decide), h.1.2.1.2.2.2.1]
  by_cases c : a 43 ≤ 0
  · rw [if_pos c, if_pos c, xx_waiting_32]
  · rw [if_neg c, if_neg c, aget_eq (by omega) (by omega), sb, xx_waiting_32]
    have := h.1.2.1.2.2.2.2.2.2.2.1 0 (by omega)
    rw [show (0 : Int).toNat = 0 from rfl, this]
theorem q_tog (h : ST a ob t ν) {x y : Int} (hx : isM x) (hy : isM y) : xx_together x y ν = some (mx x y) := by
  rw [xx_together, xisMix_eq, if_pos hx, sb, if_neg (by decide), xisMix_eq, if_pos hy, sb, if_neg (by decide), join_eq (ST_JT h) hx hy, sb, xx_together_28]
theorem q_jn (h : ST a ob t ν) {x : Int} {i : Nat} (hi : (i : Int) < a 8) (hf : fnd a x = i) : xs_placeOf x ν = some (i : Int) ∧ aget ν 12 12 i = some (a (10 + 2 * i)) ∧ isM (a (10 + 2 * i)) := by
  have w8 := h.1.1.2.1
  refine ⟨?_, ?_, (h.1.1.2.2.1 i hi).1⟩
  · rw [xplace_eq x h.1.2.1 h.1.1, hf, if_neg (by omega)]
  · rw [aget_eq (by omega) (by omega), Int.toNat_natCast, (h.1.2.1.2.2.2.2.1 i hi).2]
theorem q_j0 (h : ST a ob t ν) {x : Int} {i : Nat} (hi : (i : Int) < a 8) (hf : fnd a x = i) : AN (xx_jarOf x 0 ν) (a (10 + 2 * i)) (ST a ob t) := by
  obtain ⟨e1, e2, m⟩ := q_jn h hi hf
  rw [xx_jarOf, e1, sb, if_pos (by omega), e2, sb]
  show AN (some (a (10 + 2 * i), ν)) _ _
  exact AN.ret h
theorem q_j1 (h : ST a ob t ν) {x : Int} {i : Nat} (hi : (i : Int) < a 8) (hf : fnd a x = i) : AN (xx_jarOf x 1 ν) (un (a (10 + 2 * i))) (ST a ob t) := by
  obtain ⟨e1, e2, m⟩ := q_jn h hi hf
  rw [xx_jarOf, e1, sb, if_pos (by omega), e2, sb]
  show AN ((xx_unitsOf (a (10 + 2 * i))).bind _) _ _
  rw [xunits_eq m, sb]
  exact AN.ret h
theorem q_j2 (h : ST a ob t ν) {x : Int} {i : Nat} (hi : (i : Int) < a 8) (hf : fnd a x = i) : AN (xx_jarOf x 2 ν) (prc a (a (10 + 2 * i))) (ST a ob t) := by
  obtain ⟨e1, e2, m⟩ := q_jn h hi hf
  rw [xx_jarOf, e1, sb, if_pos (by omega), e2, sb]
  show AN ((xx_costOf (a (10 + 2 * i)) ν).bind _) _ _
  rw [price_X h.1.1 h.1.2.1 m, sb]
  exact AN.ret h
theorem tQ (h : ST a ob t ν) {m : Int} (hm : isM m) : AN (xx_tasteOf m ν) (tau (sp a) m) (ST a ob t) := by
  obtain ⟨ν', e, L, F⟩ := taste_X h.1.1 h.1.2.1 h.1.2.2.1 hm
  exact ⟨ν', e, ST_q h ⟨_, _, L⟩ F⟩
theorem q_j3 (h : ST a ob t ν) {x : Int} {i : Nat} (hi : (i : Int) < a 8) (hf : fnd a x = i) : AN (xx_jarOf x 3 ν) (tau (sp a) (a (10 + 2 * i))) (ST a ob t) := by
  obtain ⟨e1, e2, m⟩ := q_jn h hi hf
  obtain ⟨ν', e, h'⟩ := tQ h m
  rw [xx_jarOf, e1, sb, if_pos (by omega), e2, sb]
  show AN ((xx_tasteOf (a (10 + 2 * i)) ν).bind _) _ _
  rw [e, sb]
  exact AN.ret h'
theorem q_j4 (h : ST a ob t ν) {x : Int} {i : Nat} (hi : (i : Int) < a 8) (hf : fnd a x = i) : AN (xx_jarOf x 4 ν) (if tau (sp a) (a (10 + 2 * i)) = 0 then 1 else 0) (ST a ob t) := by
  obtain ⟨e1, e2, m⟩ := q_jn h hi hf
  obtain ⟨ν', e, h'⟩ := tQ h m
  rw [xx_jarOf, e1, sb, if_pos (by omega), e2, sb]
  show AN ((xx_tasteOf (a (10 + 2 * i)) ν).bind _) _ _
  rw [e, sb]
  by_cases c : tau (sp a) (a (10 + 2 * i)) = 0
  · rw [if_pos c, if_pos c, xx_jarOf_111]
    exact AN.ret h'
  · rw [if_neg c, if_neg c, xx_jarOf_111]
    exact AN.ret h'
theorem q_jU (h : ST a ob t ν) {x : Int} (hf : fnd a x = -5) : AN (xx_jarOf x 0 ν) (-1) (ST a ob t) := by
  rw [xx_jarOf, xplace_eq x h.1.2.1 h.1.1, hf, if_pos rfl, sb, if_neg (by decide)]
  exact AN.ret h
theorem q_mS (h : ST a ob t ν) {m w : Int} (hm : isM m) : xx_mixOf m w ν = (some (1 : Int)).bind (fun v1 => if v1 = 0 then some ((-2), ν) else
    if w = 0 then (xx_unitsOf m).bind fun v2 => some (v2, ν)
    else if w = 1 then (xx_costOf m ν).bind fun v3 => some (v3, ν)
    else if w = 2 then (xx_tasteOf m ν).bind fun p4 => some (p4.1, p4.2)
    else if w = 3 then (xx_tasteOf m ν).bind fun p5 => if p5.1 = 0 then xx_mixOf_88 1 p5.2 else xx_mixOf_88 0 p5.2
    else if w = 4 then (xx_cheapestLike m ν).bind fun p6 => some (p6.1, p6.2)
    else if w = 5 then (xj_twice m ν).bind fun v7 => some (v7, ν)
    else if w = 6 then (xx_tasteOf m ν).bind fun p8 => (xx_jarsLike p8.1 p8.2).bind fun v9 => some (v9, p8.2)
    else some ((-2), ν)) := by
  rw [xx_mixOf, xisMix_eq, if_pos hm]
theorem q_m0 (h : ST a ob t ν) {m : Int} (hm : isM m) : AN (xx_mixOf m 0 ν) (un m) (ST a ob t) := by
  rw [q_mS h hm]
  show AN ((xx_unitsOf m).bind _) _ _
  rw [xunits_eq hm, sb]
  exact AN.ret h
theorem q_m1 (h : ST a ob t ν) {m : Int} (hm : isM m) : AN (xx_mixOf m 1 ν) (prc a m) (ST a ob t) := by
  rw [q_mS h hm]
  show AN ((xx_costOf m ν).bind _) _ _
  rw [price_X h.1.1 h.1.2.1 hm, sb]
  exact AN.ret h
theorem q_m2 (h : ST a ob t ν) {m : Int} (hm : isM m) : AN (xx_mixOf m 2 ν) (tau (sp a) m) (ST a ob t) := by
  obtain ⟨ν', e, h'⟩ := tQ h hm
  rw [q_mS h hm]
  show AN ((xx_tasteOf m ν).bind _) _ _
  rw [e, sb]
  exact AN.ret h'
theorem q_m3 (h : ST a ob t ν) {m : Int} (hm : isM m) : AN (xx_mixOf m 3 ν) (if tau (sp a) m = 0 then 1 else 0) (ST a ob t) := by
  obtain ⟨ν', e, h'⟩ := tQ h hm
  rw [q_mS h hm]
  show AN ((xx_tasteOf m ν).bind _) _ _
  rw [e, sb]
  by_cases c : tau (sp a) m = 0
  · rw [if_pos c, if_pos c, xx_mixOf_88]
    exact AN.ret h'
  · rw [if_neg c, if_neg c, xx_mixOf_88]
    exact AN.ret h'
theorem chp_is (h : ST a ob t ν) {m : Int} (hm : isM m) : IsC (sp a) a m (chp a m) := by
  obtain ⟨d, ν', e, c, T, F⟩ := cheap_X h.1.1 h.1.2.1 h.1.2.2.1 hm
  rw [chp_of c]
  exact c
theorem q_m4 (h : ST a ob t ν) {m : Int} (hm : isM m) : AN (xx_mixOf m 4 ν) (chp a m) (ST a ob t) := by
  obtain ⟨d, ν', e, c, T, F⟩ := cheap_X h.1.1 h.1.2.1 h.1.2.2.1 hm
  rw [q_mS h hm]
  show AN ((xx_cheapestLike m ν).bind _) _ _
  rw [e, sb, chp_of c]
  exact AN.ret (ST_q h T F)
theorem q_m5 (h : ST a ob t ν) {m : Int} (hm : isM m) : AN (xx_mixOf m 5 ν) (mx m m) (ST a ob t) := by
  rw [q_mS h hm]
  show AN ((xj_twice m ν).bind _) _ _
  rw [twice_eq (ST_JT h) hm, sb]
  exact AN.ret h
theorem q_m6 (h : ST a ob t ν) {m : Int} (hm : isM m) : AN (xx_mixOf m 6 ν) (cnF a (tau (sp a)) (tau (sp a) m) (a 8).toNat 0) (ST a ob t) := by
  obtain ⟨ν', e, L, F⟩ := taste_X h.1.1 h.1.2.1 h.1.2.2.1 hm
  have w8 := h.1.1.2.1
  have h' : ST a ob t ν' := ST_q h ⟨_, _, L⟩ F
  have e3 := xjl_lp (v := tau (sp a) m) h.1.1 h'.1.2.1 L (a 8).toNat 0 FU 0 (by omega) (by have := FU_ge; omega) (by omega) (by omega)
  rw [show ((0 : Nat) : Int) = 0 from rfl, Int.zero_add] at e3
  rw [q_mS h hm]
  show AN ((xx_tasteOf m ν).bind _) _ _
  rw [e, sb, xx_jarsLike, e3, sb]
  exact AN.ret h'
theorem q_alF (h : ST a ob t ν) {x y : Int} (hx : isM x) (hy : isM y) : AN (xx_alike x y 0 ν) (if tau (sp a) x = tau (sp a) y then 1 else 0) (ST a ob t) := by
  obtain ⟨ν1, e1, h1⟩ := tQ h hx
  obtain ⟨ν2, e2, h2⟩ := tQ h1 hy
  rw [xx_alike, xisMix_eq, if_pos hx, sb, if_neg (by decide), xisMix_eq, if_pos hy, sb, if_neg (by decide), if_pos rfl, e1, sb, e2, sb]
  by_cases d : tau (sp a) x = tau (sp a) y
  · rw [if_pos d, if_pos d, xx_alike_39]
    exact AN.ret h2
  · rw [if_neg d, if_neg d, xx_alike_39]
    exact AN.ret h2
theorem q_alT (h : ST a ob t ν) {x y : Int} (hx : isM x) (hy : isM y) : AN (xx_alike x y 1 ν) (if tau (sp a) x = tau (sp a) y then 1 else 0) (ST a ob t) := by
  obtain ⟨ν1, e1, L1, F1⟩ := learn_Q h.1.1 h.1.2.1 h.1.2.2.1
  have h1 : ST a ob t ν1 := ST_q h ⟨_, _, L1⟩ F1
  have e3 := someBland_eq L1 hx hy
  have hq := tau_eq (sp_sg a) hy hx
  rw [xx_alike, xisMix_eq, if_pos hx, sb, if_neg (by decide), xisMix_eq, if_pos hy, sb, if_neg (by decide), if_neg (by decide), e1, sb, e3, sb]
  by_cases d : tau (sp a) x = tau (sp a) y
  · have hs : spn (rf a) (-5) (rn a) (mx y (mx x x)) := hq.mp d.symm
    rw [bi_pos hs, if_neg (by decide), if_pos d, xx_alike_68]
    exact AN.ret h1
  · have hs : ¬ spn (rf a) (-5) (rn a) (mx y (mx x x)) := fun z => d (hq.mpr z).symm
    rw [bi_neg hs, if_pos rfl, if_neg d, xx_alike_68]
    exact AN.ret h1
theorem q_ifp (h : ST a ob t ν) {x y : Int} {i j : Nat} (hi : (i : Int) < a 8) (hf : fnd a x = i) (hj : (j : Int) < a 8) (hg : fnd a y = j) (hij : i ≠ j) : AN (xx_ifPoured x y ν) (tau (sp a) (mx (a (10 + 2 * i)) (a (10 + 2 * j)))) (ST a ob t) := by
  obtain ⟨e1, e2, m1⟩ := q_jn h hi hf
  obtain ⟨f1, f2, m2⟩ := q_jn h hj hg
  obtain ⟨ν', e, h'⟩ := tQ h (mx_isM (a (10 + 2 * i)) (a (10 + 2 * j)))
  rw [xx_ifPoured, e1, sb, f1, sb, if_neg (by omega), if_pos (by omega), if_neg (by omega), e2, sb, f2, sb, join_eq (ST_JT h) m1 m2, sb, e, sb]
  exact AN.ret h'
theorem q_need (h : ST a ob t ν) : ∃ v, IsN (rf a) (rn a) v ∧ AN (xx_needless ν) v (ST a ob t) := by
  obtain ⟨ν1, e3, L1, F1⟩ := learn_Q h.1.1 h.1.2.1 h.1.2.2.1
  obtain ⟨w, ν2, e4, hw, f4, L2⟩ := firstNeedless_eq L1
  refine ⟨w, hw, ?_⟩
  rw [xx_needless, e3, sb, e4, sb]
  exact AN.ret (ST_q h ⟨_, _, L2⟩ (QF_tr F1 (QF_of (fun p q hp => f4 p q (by omega)))))
theorem q_make (h : ST a ob t ν) : AN (xx_makes ν) (mkx a) (ST a ob t) := by
  have w8 := h.1.1.2.1
  have hN := tw_le (k := (a 8).toNat) (by omega)
  obtain ⟨ν1, g1, L1, F1⟩ := learn_Q h.1.1 h.1.2.1 h.1.2.2.1
  obtain ⟨ν2, g2, h66, r2, L2, F2⟩ := spread_X h.1.1 (q_SRel h.1.2.1 F1) L1
  obtain ⟨ν3, g3, r3, f3x⟩ := xfill_lp (x := 0) 206 0 FU ν2 (by omega) (by have := FU_ge; omega) (fun q hq => by omega)
  rw [show ((0 : Nat) : Int) = 0 from rfl] at g3
  obtain ⟨ν4, g4, f4x⟩ := xdt_lp (f := fun m => tau (sp a) (SM (fun k => a (10 + 2 * k)) (a 8).toNat m)) hN (fun m _ => (tau_is (sp_sg _) (SM_M _ _ m)).1) (tw (a 8).toNat) 0 FU ν3 (by omega) (by have := FU_ge; omega) (by rw [f3x _ _ (by decide)]; exact h66) (fun m hm => by rw [f3x _ _ (by decide)]; exact r2 m hm) (fun v hv => by
    rw [r3 _ (by have := hv.1; have := hv.2; omega), bt_0]
    exact ⟨fun h => absurd h (by decide), fun ⟨m, h, _⟩ => by omega⟩)
  rw [dst, show ((0 : Nat) : Int) = 0 from rfl] at g4
  rw [xx_makes, g1, sb, g2, sb, xc_differentTastes, jf_fill_c68, g3, sb, g4, sb]
  have F4 : ∀ p q, p ≠ 68 → ν4 p q = ν2 p q := fun p q h => by rw [f4x p q h, f3x p q h]
  have L4 := LK_fr L2 (fun q => F4 2 q (by decide)) (fun q => F4 3 q (by decide)) (fun q => F4 4 q (by decide)) (fun q => F4 5 q (by decide)) (fun q => F4 7 q (by decide))
  exact AN.ret (ST_q h ⟨_, _, L4⟩ (QF_tr F1 (QF_tr F2 (QF_of (fun p q hp => F4 p q (by omega))))))
theorem fwx_b (h : ST a ob t ν) (m : Int) : fwx a m = -5 ∨ (0 ≤ fwx a m ∧ fwx a m < ((tw (a 8).toNat : Nat) : Int)) := by
  have := fwF_b (fun m => tau (sp a) (SM (fun k => a (10 + 2 * k)) (a 8).toNat m)) (tau (sp a) m) (tw (a 8).toNat) 0 (-5) (Or.inl rfl)
  rwa [Nat.zero_add] at this
theorem q_fewS (h : ST a ob t ν) {x w : Int} (hx : isM x) (hw : 0 ≤ w ∧ w ≤ 1) : ∃ ν2, ST a ob t ν2 ∧ xx_fewest x w ν = (if 0 ≤ fwx a x then (if w = 0 then (jb_bitCount (fwx a x)).bind fun v6 => xx_fewest_80 v6 ν2 else xx_fewest_80 (fwx a x) ν2) else some ((-5), ν2)) := by
  have w8 := h.1.1.2.1
  have hN := tw_le (k := (a 8).toNat) (by omega)
  obtain ⟨ν1, g1, L1, F1⟩ := learn_Q h.1.1 h.1.2.1 h.1.2.2.1
  obtain ⟨ν2, g2, h66, r2, L2, F2⟩ := spread_X h.1.1 (q_SRel h.1.2.1 F1) L1
  have g3 := leastLike_eq L2 hx
  have g4 := xfw_lp (f := fun m => tau (sp a) (SM (fun k => a (10 + 2 * k)) (a 8).toNat m)) (v := tau (sp a) x) hN h66 r2 (tw (a 8).toNat) 0 FU (-5) (by omega) (by have := FU_ge; omega) (Or.inl rfl)
  rw [if_pos rfl, show ((0 : Nat) : Int) = 0 from rfl] at g4
  rw [show spn (rf a) (-5) (rn a) = sp a from rfl] at g3
  refine ⟨ν2, ST_q h ⟨_, _, L2⟩ (QF_tr F1 F2), ?_⟩
  rw [xx_fewest, xisMix_eq, if_pos hx, sb, if_neg (by decide), if_neg (by omega), if_pos hw.2, g1, sb, g2, sb, g3, sb, xc_smallestLike, g4, sb]
  rfl
theorem q_few1 (h : ST a ob t ν) {x : Int} (hx : isM x) : AN (xx_fewest x 1 ν) (fwx a x) (ST a ob t) := by
  obtain ⟨ν2, h2, e⟩ := q_fewS h hx (w := 1) (by omega)
  rw [e]
  rcases fwx_b h x with c | c
  · rw [if_neg (by omega), c]
    exact AN.ret h2
  · rw [if_pos c.1, if_neg (by decide), xx_fewest_80]
    exact AN.ret h2
theorem q_few0 (h : ST a ob t ν) {x : Int} (hx : isM x) : AN (xx_fewest x 0 ν) (if fwx a x = -5 then -5 else popF 12 (fwx a x).toNat) (ST a ob t) := by
  have w8 := h.1.1.2.1
  have hN := tw_le (k := (a 8).toNat) (by omega)
  obtain ⟨ν2, h2, e⟩ := q_fewS h hx (w := 0) (by omega)
  rw [e]
  rcases fwx_b h x with c | c
  · rw [if_neg (by omega), if_pos c]
    exact AN.ret h2
  · obtain ⟨zn, hz⟩ := Int.eq_ofNat_of_zero_le c.1
    rw [if_pos c.1, if_pos rfl, if_neg (by omega), hz, bitc_eq (m := zn) (by omega), sb, xx_fewest_80, Int.toNat_natCast]
    exact AN.ret h2
theorem q_shS (h : ST a ob t ν) {k : Nat} {w : Int} (hw : 0 ≤ w ∧ w ≤ 3) : ∃ ν1, ST a ob t ν1 ∧ LK ν1 (rf a) (rn a) ∧ xx_shelf k w ν = (if 0 ≤ shv a k then (if w = 0 then some (shv a k, ν1) else if w = 1 then (xx_jarsLike (shv a k) ν1).bind fun v3 => some (v3, ν1) else if w = 2 then (xx_lowestJarLike (shv a k) ν1).bind fun v4 => some (v4, ν1) else (xx_cheapestJarLike (shv a k) ν1).bind fun v5 => some (v5, ν1)) else some ((-5), ν1)) := by
  obtain ⟨ν1, e, L, F⟩ := learn_Q h.1.1 h.1.2.1 h.1.2.2.1
  have h1 : ST a ob t ν1 := ST_q h ⟨_, _, L⟩ F
  refine ⟨ν1, h1, L, ?_⟩
  rw [xx_shelf, if_neg (by omega), if_neg (by omega), if_pos hw.2, e, sb, xtos_eq h.1.1 h1.1.2.1 L (by omega), sb, Int.toNat_natCast]
  rfl
theorem shv_b (h : ST a ob t ν) (k : Nat) : shv a k = -5 ∨ (isM (shv a k) ∧ tau (sp a) (shv a k) = shv a k ∧ ∃ q, q < (a 8).toNat ∧ tau (sp a) (a (10 + 2 * q)) = shv a k) := by
  rcases itN_b a (tau (sp a)) k (-1) with c | ⟨q, hq, hz⟩
  · exact Or.inl c
  · right
    have mq := (h.1.1.2.2.1 q (by omega)).1
    have tq := tau_is (sp_sg a) mq
    have tt := tau_tau (sp_sg a) mq
    rw [hz] at tq tt
    exact ⟨tq.1, tt, q, hq, hz⟩
theorem q_s0 (h : ST a ob t ν) (k : Nat) : AN (xx_shelf k 0 ν) (shv a k) (ST a ob t) := by
  obtain ⟨ν1, h1, L, e⟩ := q_shS h (k := k) (w := 0) (by omega)
  rw [e]
  rcases shv_b h k with c | c
  · rw [if_neg (by omega), c]
    exact AN.ret h1
  · rw [if_pos c.1.1, if_pos rfl]
    exact AN.ret h1
theorem q_s1 (h : ST a ob t ν) {k : Nat} (hk : shv a k ≠ -5) : AN (xx_shelf k 1 ν) (cnF a (tau (sp a)) (shv a k) (a 8).toNat 0) (ST a ob t) := by
  obtain ⟨ν1, h1, L, e⟩ := q_shS h (k := k) (w := 1) (by omega)
  have w8 := h.1.1.2.1
  have e6 := xjl_lp (v := shv a k) h1.1.1 h1.1.2.1 L (a 8).toNat 0 FU 0 (by omega) (by have := FU_ge; omega) (by omega) (by omega)
  rw [show ((0 : Nat) : Int) = 0 from rfl, Int.zero_add] at e6
  rw [e, if_pos ((shv_b h k).resolve_left hk).1.1, if_neg (by decide), if_pos rfl, xx_jarsLike, e6, sb]
  exact AN.ret h1
theorem q_s2 (h : ST a ob t ν) {k : Nat} (hk : shv a k ≠ -5) : AN (xx_shelf k 2 ν) (a (9 + 2 * (fjF a (tau (sp a)) (shv a k) (a 8).toNat 0).toNat)) (ST a ob t) := by
  obtain ⟨ν1, h1, L, e⟩ := q_shS h (k := k) (w := 2) (by omega)
  have w8 := h.1.1.2.1
  obtain ⟨c, tt, q, hq, hz⟩ := (shv_b h k).resolve_left hk
  have hf := fjF_b a (tau (sp a)) (shv a k) (a 8).toNat 0
  have hfn := fjF_ne (a := a) (T := tau (sp a)) (v := shv a k) (a 8).toNat 0 ⟨q, by omega, by omega, hz⟩
  have e6 := xfj_lp (v := shv a k) h1.1.1 h1.1.2.1 L (a 8).toNat 0 FU (by omega) (by have := FU_ge; omega)
  rw [show ((0 : Nat) : Int) = 0 from rfl, show spn (rf a) (-5) (rn a) = sp a from rfl] at e6
  generalize fjF a (tau (sp a)) (shv a k) (a 8).toNat 0 = z at hf hfn e6
  rw [e, if_pos c.1, if_neg (by decide), if_neg (by decide), if_pos rfl, xx_lowestJarLike, xt_firstJarLike, e6, sb, if_pos (by omega), aget_eq (by omega) (by omega), sb, xx_lowestJarLike_31, sb, (h1.1.2.1.2.2.2.2.1 z.toNat (by omega)).1]
  exact AN.ret h1
theorem q_s3 (h : ST a ob t ν) {k : Nat} (hk : shv a k ≠ -5) : AN (xx_shelf k 3 ν) (a (9 + 2 * (chF a (tau (sp a)) (shv a k) (a 8).toNat 0 (-5)).toNat)) (ST a ob t) := by
  obtain ⟨ν1, h1, L, e⟩ := q_shS h (k := k) (w := 3) (by omega)
  have w8 := h.1.1.2.1
  obtain ⟨c, tt, q, hq, hz⟩ := (shv_b h k).resolve_left hk
  have hcn := chF_ne (a := a) (T := tau (sp a)) (v := shv a k) (a 8).toNat 0 (-5) (Or.inr ⟨q, by omega, by omega, hz⟩)
  obtain ⟨d, e6, hd⟩ := xcj_lp (v := shv a k) h1.1.1 h1.1.2.1 L (a 8).toNat 0 FU (-5) (by omega) (by have := FU_ge; omega) (Or.inl rfl)
  rw [show spn (rf a) (-5) (rn a) = sp a from rfl] at hd
  rw [← hd] at hcn ⊢
  rw [if_pos rfl, if_pos rfl, if_neg hcn, show ((0 : Nat) : Int) = 0 from rfl] at e6
  rw [e, if_pos c.1, if_neg (by decide), if_neg (by decide), if_neg (by decide), xx_cheapestJarLike, e6, sb]
  exact AN.ret h1
end ASK
