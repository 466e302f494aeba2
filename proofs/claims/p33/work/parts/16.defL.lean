noncomputable def xl_low (a1 : Int) (a2 : Int) : Option Int :=
  if a2 = 0 then none else
  some (Int.tmod (and32 a1 2147483647) a2)
noncomputable def xl_jar_23 (s0 : Int) (μ : Mem) : Option (Int × Mem) :=
  some (s0, μ)
noncomputable def xl_jar (a1 : Int) (μ : Mem) : Option (Int × Mem) :=
  (xx_count 0 μ).bind fun p1 =>
  bnd (p1.1) fun v2 =>
  if v2 = 0 then
  xl_jar_23 (-1) p1.2
  else
    (xl_low a1 v2).bind fun v3 =>
    (xx_ranked v3 p1.2).bind fun v4 =>
    xl_jar_23 v4 p1.2
noncomputable def xl_mix_42 (s0 : Int) : Option Int :=
  some (s0)
noncomputable def xl_mix (a1 : Int) : Option Int :=
  (xl_low a1 6561).bind fun v1 =>
  if (and32 (ishr32 a1 3) 1) = 0 then
  xl_mix_42 v1
  else
    if (and32 (ishr32 a1 4) 1) = 0 then
    xl_mix_42 (Int.tmod v1 81)
    else
      xl_mix_42 (w32 ((Int.tmod v1 9) * 81))
noncomputable def xl_does_120 (s0 : Int) (μ : Mem) : Option (Int × Mem) :=
  some (s0, μ)
noncomputable def xl_does_96 (x1 : Int) (μ : Mem) : Option (Int × Mem) :=
  (xx_count 0 μ).bind fun p6 =>
  if p6.1 ≤ 6 then
    (xl_mix (ishr32 x1 4)).bind fun v7 =>
    (xx_jar v7 p6.2).bind fun p8 =>
    xl_does_120 p8.1 p8.2
  else
  xl_does_120 0 p6.2
noncomputable def xl_does_155 (s0 : Int) (μ : Mem) : Option (Int × Mem) :=
  some (s0, μ)
noncomputable def xl_does_140 (s0 : Int) (μ : Mem) : Option (Int × Mem) :=
  if s0 = (-5) then
  xl_does_155 0 μ
  else
    xl_does_155 s0 μ
noncomputable def xl_does_130 (μ : Mem) : Option (Int × Mem) :=
  xl_does_140 0 μ
noncomputable def xl_does_121 (x2 : Int) (x3 : Int) (μ : Mem) : Option (Int × Mem) :=
  if x2 < 0 then
    xl_does_130 μ
  else
  if x2 = x3 then
  xl_does_130 μ
  else
    (xx_pour x2 x3 μ).bind fun p9 =>
    xl_does_140 p9.1 p9.2
noncomputable def xl_does_184 (s0 : Int) (μ : Mem) : Option (Int × Mem) :=
  some (s0, μ)
noncomputable def xl_does_169 (s0 : Int) (μ : Mem) : Option (Int × Mem) :=
  if s0 = (-5) then
  xl_does_184 0 μ
  else
    xl_does_184 s0 μ
noncomputable def xl_does_207 (s0 : Int) (μ : Mem) : Option (Int × Mem) :=
  some (s0, μ)
noncomputable def xl_does_198 (μ : Mem) : Option (Int × Mem) :=
  xl_does_207 0 μ
noncomputable def xl_does_243 (s0 : Int) (μ : Mem) : Option (Int × Mem) :=
  some (s0, μ)
noncomputable def xl_does_208 (x1 : Int) (μ : Mem) : Option (Int × Mem) :=
  (xx_count 1 μ).bind fun p12 =>
  if p12.1 = 8 then
  (xl_low (ishr32 x1 4) 8).bind fun v15 =>
  (xx_drop v15 p12.2).bind fun p16 =>
  xl_does_243 p16.1 p16.2
  else
    (xl_mix (ishr32 x1 4)).bind fun v13 =>
    (xx_rule v13 p12.2).bind fun p14 =>
    xl_does_243 p14.1 p14.2
noncomputable def xl_does_271 (s0 : Int) (μ : Mem) : Option (Int × Mem) :=
  some (s0, μ)
noncomputable def xl_does_308 (s0 : Int) (μ : Mem) : Option (Int × Mem) :=
  some (s0, μ)
noncomputable def xl_does_355 (s0 : Int) (μ : Mem) : Option (Int × Mem) :=
  some (s0, μ)
noncomputable def xl_does_352 (s1 : Int) (μ : Mem) : Option (Int × Mem) :=
  (xx_want s1 μ).bind fun p27 =>
  xl_does_355 p27.1 p27.2
noncomputable def xl_does_337 (x1 : Int) (μ : Mem) : Option (Int × Mem) :=
  (xl_mix (ishr32 x1 5)).bind fun v26 =>
  xl_does_352 v26 μ
noncomputable def xl_does_309 (x1 : Int) (x2 : Int) (μ : Mem) : Option (Int × Mem) :=
  (xx_count 6 μ).bind fun p25 =>
  if p25.1 = 8 then
  xl_does_355 0 p25.2
  else
    if x2 < 0 then
      xl_does_337 x1 p25.2
    else
    if (and32 (ishr32 x1 4) 1) = 0 then
    xl_does_337 x1 p25.2
    else
      (xx_jarOf x2 0 p25.2).bind fun p28 =>
      xl_does_352 p28.1 p28.2
noncomputable def xl_does_375 (s0 : Int) (μ : Mem) : Option (Int × Mem) :=
  some (s0, μ)
noncomputable def xl_does (a1 : Int) (μ : Mem) : Option (Int × Mem) :=
  (xl_jar (ishr32 a1 4) μ).bind fun p1 =>
  bnd (p1.1) fun v2 =>
  (xl_jar (ishr32 a1 8) p1.2).bind fun p3 =>
  bnd (p3.1) fun v4 =>
  bnd (and32 a1 15) fun v5 =>
  if v5 = 0 then
    xl_does_96 a1 p3.2
  else
  if v5 = 1 then
    xl_does_96 a1 p3.2
  else
  if v5 = 2 then
    xl_does_96 a1 p3.2
  else
  if v5 = 3 then
    xl_does_96 a1 p3.2
  else
  if v5 = 4 then
    xl_does_121 v2 v4 p3.2
  else
  if v5 = 5 then
    xl_does_121 v2 v4 p3.2
  else
  if v5 = 6 then
    if 0 ≤ v2 then
      (xx_more v2 p3.2).bind fun p10 =>
      xl_does_169 p10.1 p10.2
    else
    xl_does_169 0 p3.2
  else
  if v5 = 7 then
    if v2 < 0 then
      xl_does_198 p3.2
    else
    if (and32 (ishr32 a1 12) 1) = 0 then
    xl_does_198 p3.2
    else
      (xx_throwAway v2 p3.2).bind fun p11 =>
      xl_does_207 p11.1 p11.2
  else
  if v5 = 8 then
    xl_does_208 a1 p3.2
  else
  if v5 = 9 then
    xl_does_208 a1 p3.2
  else
  if v5 = 10 then
    (xx_count 1 p3.2).bind fun p17 =>
    if p17.1 = 0 then
    xl_does_271 0 p17.2
    else
      (xx_count 1 p17.2).bind fun p18 =>
      (xl_low (ishr32 a1 4) p18.1).bind fun v19 =>
      (xx_drop v19 p18.2).bind fun p20 =>
      xl_does_271 p20.1 p20.2
  else
  if v5 = 11 then
    (xl_low (ishr32 a1 4) 8).bind fun v21 =>
    (xl_low (ishr32 a1 7) 100).bind fun v22 =>
    (xx_price v21 v22 p3.2).bind fun p23 =>
    bnd (p23.1) fun v24 =>
    if v24 = (-5) then
    xl_does_308 0 p23.2
    else
      xl_does_308 v24 p23.2
  else
  if v5 = 12 then
    xl_does_309 a1 v2 p3.2
  else
  if v5 = 13 then
    xl_does_309 a1 v2 p3.2
  else
  (xx_serve p3.2).bind fun p29 =>
  bnd (p29.1) fun v30 =>
  if v30 = (-5) then
  xl_does_375 0 p29.2
  else
    xl_does_375 v30 p29.2
noncomputable def xl_areAccountsSo_525 (s0 : Int) (μ : Mem) : Option (Int × Mem) :=
  if s0 = 0 ∨ s0 = 1 then
  some (s0, μ)
  else none
noncomputable def xl_areAccountsSo_524 (μ : Mem) : Option (Int × Mem) :=
  xl_areAccountsSo_525 0 μ
noncomputable def xl_areAccountsSo_375 (x1 : Int) (x2 : Int) (x3 : Int) (x5 : Int) (x7 : Int) (μ : Mem) : Option (Int × Mem) :=
  if x5 = 0 then
    xl_areAccountsSo_524 μ
  else
  (xx_count 0 μ).bind fun p4 =>
  if x3 = p4.1 then
  (xx_count 11 p4.2).bind fun p5 =>
  if x2 = p5.1 then
  (xx_count 7 p5.2).bind fun p6 =>
  (xx_count 8 p6.2).bind fun p7 =>
  (xx_count 9 p7.2).bind fun p8 =>
  (xx_count 10 p8.2).bind fun p9 =>
  if p6.1 = (w32 ((w32 ((w32 (p7.1 + p8.1)) + p9.1)) + x2)) then
  (xx_count 8 p9.2).bind fun p10 =>
  if (Int.tmod p10.1 3) = 0 then
  (xx_count 6 p10.2).bind fun p11 =>
  (xx_count 14 p11.2).bind fun p12 =>
  (xx_count 15 p12.2).bind fun p13 =>
  if (w32 ((w32 (p11.1 + p12.1)) + p13.1)) = x1 then
  (xx_count 3 p13.2).bind fun p14 =>
  if p14.1 = x7 then
  (xx_count 3 p14.2).bind fun p15 =>
  (xx_count 4 p15.2).bind fun p16 =>
  if (w32 (p15.1 * p16.1)) = 6561 then
  (xx_count 2 p16.2).bind fun p17 =>
  (xx_count 1 p17.2).bind fun p18 =>
  if p18.1 < p17.1 then
    xl_areAccountsSo_524 p18.2
  else
  (xx_count 5 p18.2).bind fun p19 =>
  (xx_shelf p19.1 0 p19.2).bind fun p20 =>
  if p20.1 = (-5) then
  xl_areAccountsSo_525 1 p20.2
  else
    xl_areAccountsSo_524 p20.2
  else
    xl_areAccountsSo_524 p16.2
  else
    xl_areAccountsSo_524 p14.2
  else
    xl_areAccountsSo_524 p13.2
  else
    xl_areAccountsSo_524 p10.2
  else
    xl_areAccountsSo_524 p9.2
  else
    xl_areAccountsSo_524 p5.2
  else
    xl_areAccountsSo_524 p4.2
noncomputable def xl_areAccountsSo_353 : Nat → Int → Int → Int → Int → Int → Int → Mem → Option (Int × Mem)
  | 0, _, _, _, _, _, _, _ => none
  | n + 1, x1, x2, x3, x5, x7, x8, μ =>
  (xx_count 2 μ).bind fun p3 =>
  if p3.1 ≤ x8 then
    xl_areAccountsSo_375 x1 x2 x3 x5 x7 p3.2
  else
  bnd (w32 (x7 * 3)) fun v21 =>
  bnd (w32 (x8 + 1)) fun v22 =>
  xl_areAccountsSo_353 n x1 x2 x3 x5 v21 v22 p3.2
noncomputable def xl_areAccountsSo_347 (x1 : Int) (x2 : Int) (x3 : Int) (x5 : Int) (μ : Mem) : Option (Int × Mem) :=
  xl_areAccountsSo_353 FU x1 x2 x3 x5 1 0 μ
noncomputable def xl_areAccountsSo_320 (K167 : Int → Int → Int → Int → Int → Int → Mem → Option (Int × Mem)) (x1 : Int) (x2 : Int) (x3 : Int) (x7 : Int) (s0 : Int) (μ : Mem) : Option (Int × Mem) :=
  (xx_shelf x7 0 μ).bind fun p23 =>
  bnd (p23.1) fun v24 =>
  (xx_shelf x7 1 p23.2).bind fun p25 =>
  bnd (w32 (x3 + p25.1)) fun v26 =>
  bnd (w32 (x7 + 1)) fun v27 =>
  K167 x1 x2 v26 s0 v24 v27 p25.2
noncomputable def xl_areAccountsSo_319 (K167 : Int → Int → Int → Int → Int → Int → Mem → Option (Int × Mem)) (x1 : Int) (x2 : Int) (x3 : Int) (x7 : Int) (μ : Mem) : Option (Int × Mem) :=
  xl_areAccountsSo_320 K167 x1 x2 x3 x7 0 μ
noncomputable def xl_areAccountsSo_167 : Nat → Int → Int → Int → Int → Int → Int → Mem → Option (Int × Mem)
  | 0, _, _, _, _, _, _, _ => none
  | n + 1, x1, x2, x3, x5, x6, x7, μ =>
  (xx_count 5 μ).bind fun p2 =>
  if p2.1 ≤ x7 then
    xl_areAccountsSo_347 x1 x2 x3 x5 p2.2
  else
  if x5 = 0 then
    xl_areAccountsSo_319 (xl_areAccountsSo_167 n) x1 x2 x3 x7 p2.2
  else
  (xx_shelf x7 0 p2.2).bind fun p28 =>
  if p28.1 ≤ x6 then
    xl_areAccountsSo_319 (xl_areAccountsSo_167 n) x1 x2 x3 x7 p28.2
  else
  (xx_shelf x7 1 p28.2).bind fun p29 =>
  if p29.1 ≤ 0 then
    xl_areAccountsSo_319 (xl_areAccountsSo_167 n) x1 x2 x3 x7 p29.2
  else
  (xx_shelf x7 2 p29.2).bind fun p30 =>
  (xx_jarOf p30.1 3 p30.2).bind fun p31 =>
  (xx_shelf x7 0 p31.2).bind fun p32 =>
  if p31.1 = p32.1 then
  (xx_shelf x7 3 p32.2).bind fun p33 =>
  (xx_jarOf p33.1 3 p33.2).bind fun p34 =>
  (xx_shelf x7 0 p34.2).bind fun p35 =>
  if p34.1 = p35.1 then
  (xx_shelf x7 3 p35.2).bind fun p36 =>
  (xx_jarOf p36.1 2 p36.2).bind fun p37 =>
  (xx_shelf x7 2 p37.2).bind fun p38 =>
  (xx_jarOf p38.1 2 p38.2).bind fun p39 =>
  if p39.1 < p37.1 then
    xl_areAccountsSo_319 (xl_areAccountsSo_167 n) x1 x2 x3 x7 p39.2
  else
  (xx_shelf x7 2 p39.2).bind fun p40 =>
  (xx_shelf x7 3 p40.2).bind fun p41 =>
  if p41.1 < p40.1 then
    xl_areAccountsSo_319 (xl_areAccountsSo_167 n) x1 x2 x3 x7 p41.2
  else
  (xx_shelf x7 0 p41.2).bind fun p42 =>
  (xx_mixOf p42.1 6 p42.2).bind fun p43 =>
  (xx_shelf x7 1 p43.2).bind fun p44 =>
  if p43.1 = p44.1 then
  xl_areAccountsSo_320 (xl_areAccountsSo_167 n) x1 x2 x3 x7 1 p44.2
  else
    xl_areAccountsSo_319 (xl_areAccountsSo_167 n) x1 x2 x3 x7 p44.2
  else
    xl_areAccountsSo_319 (xl_areAccountsSo_167 n) x1 x2 x3 x7 p35.2
  else
    xl_areAccountsSo_319 (xl_areAccountsSo_167 n) x1 x2 x3 x7 p32.2
noncomputable def xl_areAccountsSo_161 (x1 : Int) (x2 : Int) (x3 : Int) (x5 : Int) (μ : Mem) : Option (Int × Mem) :=
  xl_areAccountsSo_167 FU x1 x2 x3 x5 (-1) 0 μ
noncomputable def xl_areAccountsSo_149 (K13 : Int → Int → Int → Int → Int → Int → Mem → Option (Int × Mem)) (x1 : Int) (x2 : Int) (x3 : Int) (x6 : Int) (x7 : Int) (s0 : Int) (μ : Mem) : Option (Int × Mem) :=
  bnd (w32 (x6 + 1)) fun v48 =>
  K13 x1 x2 x3 x7 s0 v48 μ
noncomputable def xl_areAccountsSo_148 (K13 : Int → Int → Int → Int → Int → Int → Mem → Option (Int × Mem)) (x1 : Int) (x2 : Int) (x3 : Int) (x6 : Int) (x7 : Int) (μ : Mem) : Option (Int × Mem) :=
  xl_areAccountsSo_149 K13 x1 x2 x3 x6 x7 0 μ
noncomputable def xl_areAccountsSo_141 (K13 : Int → Int → Int → Int → Int → Int → Mem → Option (Int × Mem)) (x1 : Int) (x2 : Int) (x3 : Int) (x6 : Int) (x7 : Int) (s0 : Int) (s1 : Int) (μ : Mem) : Option (Int × Mem) :=
  if s0 = s1 then
  xl_areAccountsSo_149 K13 x1 x2 x3 x6 x7 1 μ
  else
    xl_areAccountsSo_148 K13 x1 x2 x3 x6 x7 μ
noncomputable def xl_areAccountsSo_13 : Nat → Int → Int → Int → Int → Int → Int → Mem → Option (Int × Mem)
  | 0, _, _, _, _, _, _, _ => none
  | n + 1, x1, x2, x3, x4, x5, x6, μ =>
  (xx_count 0 μ).bind fun p1 =>
  if p1.1 ≤ x6 then
    xl_areAccountsSo_161 x1 x2 x3 x5 p1.2
  else
  (xx_ranked x6 p1.2).bind fun v45 =>
  (xx_jarOf v45 1 p1.2).bind fun p46 =>
  bnd (w32 (x2 + p46.1)) fun v47 =>
  if x5 = 0 then
    xl_areAccountsSo_148 (xl_areAccountsSo_13 n) x1 v47 x3 x6 v45 p46.2
  else
  if v45 ≤ x4 then
    xl_areAccountsSo_148 (xl_areAccountsSo_13 n) x1 v47 x3 x6 v45 p46.2
  else
  (xx_jarOf v45 1 p46.2).bind fun p49 =>
  (xx_jarOf v45 0 p49.2).bind fun p50 =>
  (xx_mixOf p50.1 0 p50.2).bind fun p51 =>
  if p49.1 = p51.1 then
  (xx_jarOf v45 2 p51.2).bind fun p52 =>
  (xx_jarOf v45 0 p52.2).bind fun p53 =>
  (xx_mixOf p53.1 1 p53.2).bind fun p54 =>
  if p52.1 = p54.1 then
  (xx_jarOf v45 3 p54.2).bind fun p55 =>
  (xx_jarOf v45 0 p55.2).bind fun p56 =>
  (xx_mixOf p56.1 2 p56.2).bind fun p57 =>
  if p55.1 = p57.1 then
  (xx_jarOf v45 4 p57.2).bind fun p58 =>
  (xx_jarOf v45 3 p58.2).bind fun p59 =>
  if p59.1 = 0 then
  xl_areAccountsSo_141 (xl_areAccountsSo_13 n) x1 v47 x3 x6 v45 p58.1 1 p59.2
  else
    xl_areAccountsSo_141 (xl_areAccountsSo_13 n) x1 v47 x3 x6 v45 p58.1 0 p59.2
  else
    xl_areAccountsSo_148 (xl_areAccountsSo_13 n) x1 v47 x3 x6 v45 p57.2
  else
    xl_areAccountsSo_148 (xl_areAccountsSo_13 n) x1 v47 x3 x6 v45 p54.2
  else
    xl_areAccountsSo_148 (xl_areAccountsSo_13 n) x1 v47 x3 x6 v45 p51.2
noncomputable def xl_areAccountsSo (a1 : Int) (μ : Mem) : Option (Int × Mem) :=
  xl_areAccountsSo_13 FU a1 0 0 (-1) 1 0 μ
noncomputable def xl_isMixSo_404 (s0 : Int) (μ : Mem) : Option (Int × Mem) :=
  if s0 = 0 ∨ s0 = 1 then
  some (s0, μ)
  else none
noncomputable def xl_isMixSo_403 (μ : Mem) : Option (Int × Mem) :=
  xl_isMixSo_404 0 μ
noncomputable def xl_isMixSo_399 (μ : Mem) : Option (Int × Mem) :=
  xl_isMixSo_404 1 μ
noncomputable def xl_isMixSo_322 (x4 : Int) (x5 : Int) (x7 : Int) (x8 : Int) (μ : Mem) : Option (Int × Mem) :=
  if x7 = 0 then
    xl_isMixSo_403 μ
  else
  (xx_mixOf x8 2 μ).bind fun p8 =>
  if p8.1 = x4 then
  (xx_mixOf x8 4 p8.2).bind fun p9 =>
  if p9.1 = x5 then
  if x8 < x4 then
    xl_isMixSo_403 p9.2
  else
  (xx_mixOf x8 1 p9.2).bind fun p10 =>
  (xx_mixOf x5 1 p10.2).bind fun p11 =>
  if p10.1 < p11.1 then
    xl_isMixSo_403 p11.2
  else
  (xx_mixOf x8 1 p11.2).bind fun p12 =>
  (xx_mixOf x5 1 p12.2).bind fun p13 =>
  if p13.1 < p12.1 then
    xl_isMixSo_399 p13.2
  else
  if x8 < x5 then
    xl_isMixSo_403 p13.2
  else
  xl_isMixSo_399 p13.2
  else
    xl_isMixSo_403 p9.2
  else
    xl_isMixSo_403 p8.2
noncomputable def xl_isMixSo_314 (K239 : Int → Int → Int → Int → Int → Int → Mem → Option (Int × Mem)) (x3 : Int) (x4 : Int) (x5 : Int) (x8 : Int) (x9 : Int) (s0 : Int) (μ : Mem) : Option (Int × Mem) :=
  bnd (w32 (x9 + 1)) fun v16 =>
  K239 x3 x4 x5 s0 x8 v16 μ
noncomputable def xl_isMixSo_313 (K239 : Int → Int → Int → Int → Int → Int → Mem → Option (Int × Mem)) (x3 : Int) (x4 : Int) (x5 : Int) (x8 : Int) (x9 : Int) (μ : Mem) : Option (Int × Mem) :=
  xl_isMixSo_314 K239 x3 x4 x5 x8 x9 0 μ
noncomputable def xl_isMixSo_293 (K239 : Int → Int → Int → Int → Int → Int → Mem → Option (Int × Mem)) (x3 : Int) (x4 : Int) (x5 : Int) (x7 : Int) (x8 : Int) (x9 : Int) (x10 : Int) (μ : Mem) : Option (Int × Mem) :=
  if x7 = 0 then
    xl_isMixSo_313 K239 x3 x4 x5 x8 x9 μ
  else
  (xx_mixOf x10 3 μ).bind fun p17 =>
  if p17.1 = 1 then
  xl_isMixSo_314 K239 x3 x4 x5 x8 x9 1 p17.2
  else
    xl_isMixSo_313 K239 x3 x4 x5 x8 x9 p17.2
noncomputable def xl_isMixSo_270 (K239 : Int → Int → Int → Int → Int → Int → Mem → Option (Int × Mem)) : Nat → Int → Int → Int → Int → Int → Int → Int → Int → Int → Mem → Option (Int × Mem)
  | 0, _, _, _, _, _, _, _, _, _, _ => none
  | n + 1, x3, x4, x5, x7, x8, x9, x10, x11, x12, μ =>
  if x11 ≤ x12 then
    xl_isMixSo_293 K239 x3 x4 x5 x7 x8 x9 x10 μ
  else
  (xx_together x8 x10 μ).bind fun v18 =>
  bnd (w32 (x12 + 1)) fun v19 =>
  xl_isMixSo_270 K239 n x3 x4 x5 x7 v18 x9 x10 x11 v19 μ
noncomputable def xl_isMixSo_239 : Nat → Int → Int → Int → Int → Int → Int → Mem → Option (Int × Mem)
  | 0, _, _, _, _, _, _, _ => none
  | n + 1, x3, x4, x5, x7, x8, x9, μ =>
  (xx_count 1 μ).bind fun p7 =>
  if p7.1 ≤ x9 then
    xl_isMixSo_322 x4 x5 x7 x8 p7.2
  else
  (xx_ruleOf x9 p7.2).bind fun v14 =>
  bnd (and32 (ishr32 x3 (w32 (2 * x9))) 3) fun v15 =>
  xl_isMixSo_270 (xl_isMixSo_239 n) FU x3 x4 x5 x7 x8 x9 v14 v15 0 p7.2
noncomputable def xl_isMixSo_231 (x1 : Int) (x3 : Int) (x4 : Int) (x5 : Int) (s0 : Int) (μ : Mem) : Option (Int × Mem) :=
  xl_isMixSo_239 FU x3 x4 x5 s0 x1 0 μ
noncomputable def xl_isMixSo_230 (x1 : Int) (x3 : Int) (x4 : Int) (x5 : Int) (μ : Mem) : Option (Int × Mem) :=
  xl_isMixSo_231 x1 x3 x4 x5 0 μ
noncomputable def xl_isMixSo_206 (x1 : Int) (x2 : Int) (x3 : Int) (x4 : Int) (x5 : Int) (x6 : Int) (s0 : Int) (s1 : Int) (μ : Mem) : Option (Int × Mem) :=
  if s0 = s1 then
  (xx_alike x6 x1 1 μ).bind fun p24 =>
  (xx_mixOf x2 3 p24.2).bind fun p25 =>
  if p24.1 = p25.1 then
  xl_isMixSo_231 x1 x3 x4 x5 1 p25.2
  else
    xl_isMixSo_230 x1 x3 x4 x5 p25.2
  else
    xl_isMixSo_230 x1 x3 x4 x5 μ
noncomputable def xl_isMixSo_159 (x1 : Int) (x2 : Int) (x3 : Int) (x4 : Int) (x5 : Int) (x6 : Int) (s0 : Int) (μ : Mem) : Option (Int × Mem) :=
  if s0 = 0 then
    xl_isMixSo_230 x1 x3 x4 x5 μ
  else
  (xx_alike x1 x2 1 μ).bind fun p20 =>
  (xx_alike x1 x2 0 p20.2).bind fun p21 =>
  if p20.1 = p21.1 then
  (xx_alike x1 x2 0 p21.2).bind fun p22 =>
  (xx_mixOf x2 2 p22.2).bind fun p23 =>
  if p23.1 = x4 then
  xl_isMixSo_206 x1 x2 x3 x4 x5 x6 p22.1 1 p23.2
  else
    xl_isMixSo_206 x1 x2 x3 x4 x5 x6 p22.1 0 p23.2
  else
    xl_isMixSo_230 x1 x3 x4 x5 p21.2
noncomputable def xl_isMixSo_158 (x1 : Int) (x2 : Int) (x3 : Int) (x4 : Int) (x5 : Int) (x6 : Int) (μ : Mem) : Option (Int × Mem) :=
  xl_isMixSo_159 x1 x2 x3 x4 x5 x6 0 μ
noncomputable def xl_isMixSo (a1 : Int) (a2 : Int) (a3 : Int) (μ : Mem) : Option (Int × Mem) :=
  (xx_mixOf a1 2 μ).bind fun p1 =>
  bnd (p1.1) fun v2 =>
  (xx_mixOf a1 4 p1.2).bind fun p3 =>
  bnd (p3.1) fun v4 =>
  (xx_together a1 a2 p3.2).bind fun v5 =>
  (xx_together a2 a1 p3.2).bind fun v6 =>
  if v6 = v5 then
  (xx_mixOf a1 5 p3.2).bind fun p26 =>
  (xx_together a1 p26.1 p26.2).bind fun v27 =>
  if v27 = 0 then
  (xx_together a1 a1 p26.2).bind fun v28 =>
  (xx_together v28 a1 p26.2).bind fun v29 =>
  if v29 = 0 then
  if a1 < v2 then
    xl_isMixSo_158 a1 a2 a3 v2 v4 v5 p26.2
  else
  (xx_mixOf v2 2 p26.2).bind fun p30 =>
  if p30.1 = v2 then
  (xx_alike a1 v2 1 p30.2).bind fun p31 =>
  if p31.1 = 1 then
  (xx_alike a1 v4 1 p31.2).bind fun p32 =>
  if p32.1 = 1 then
  (xx_mixOf v4 1 p32.2).bind fun p33 =>
  (xx_mixOf a1 1 p33.2).bind fun p34 =>
  if p34.1 < p33.1 then
    xl_isMixSo_158 a1 a2 a3 v2 v4 v5 p34.2
  else
  (xx_mixOf v4 1 p34.2).bind fun p35 =>
  (xx_mixOf v2 1 p35.2).bind fun p36 =>
  if p36.1 < p35.1 then
    xl_isMixSo_158 a1 a2 a3 v2 v4 v5 p36.2
  else
  (xx_mixOf a1 3 p36.2).bind fun p37 =>
  (xx_alike a1 0 1 p37.2).bind fun p38 =>
  if p37.1 = p38.1 then
  xl_isMixSo_159 a1 a2 a3 v2 v4 v5 1 p38.2
  else
    xl_isMixSo_158 a1 a2 a3 v2 v4 v5 p38.2
  else
    xl_isMixSo_158 a1 a2 a3 v2 v4 v5 p32.2
  else
    xl_isMixSo_158 a1 a2 a3 v2 v4 v5 p31.2
  else
    xl_isMixSo_158 a1 a2 a3 v2 v4 v5 p30.2
  else
    xl_isMixSo_158 a1 a2 a3 v2 v4 v5 p26.2
  else
    xl_isMixSo_158 a1 a2 a3 v2 v4 v5 p26.2
  else
    xl_isMixSo_158 a1 a2 a3 v2 v4 v5 p3.2
noncomputable def xl_size_24 (x1 : Int) : Option Int :=
  some (x1)
noncomputable def xl_size_4 : Nat → Int → Int → Int → Option Int
  | 0, _, _, _ => none
  | n + 1, x0, x1, x2 =>
  if 12 ≤ x2 then
    xl_size_24 x1
  else
  bnd (w32 (x1 + (and32 (ishr32 x0 x2) 1))) fun v1 =>
  bnd (w32 (x2 + 1)) fun v2 =>
  xl_size_4 n x0 v1 v2
noncomputable def xl_size (a1 : Int) : Option Int :=
  xl_size_4 FU a1 0 0
noncomputable def xl_areFewestSo_255 (s0 : Int) (μ : Mem) : Option (Int × Mem) :=
  if s0 = 0 ∨ s0 = 1 then
  some (s0, μ)
  else none
noncomputable def xl_areFewestSo_254 (μ : Mem) : Option (Int × Mem) :=
  xl_areFewestSo_255 0 μ
noncomputable def xl_areFewestSo_238 (μ : Mem) : Option (Int × Mem) :=
  (xx_makes μ).bind fun p10 =>
  (xx_count 4 p10.2).bind fun p11 =>
  if p11.1 < p10.1 then
    xl_areFewestSo_254 p11.2
  else
  xl_areFewestSo_255 1 p11.2
noncomputable def xl_areFewestSo_215 (x2 : Int) (x7 : Int) (μ : Mem) : Option (Int × Mem) :=
  (xx_makes μ).bind fun p9 =>
  if p9.1 < 1 then
    xl_areFewestSo_254 p9.2
  else
  if 7 < x2 then
    xl_areFewestSo_238 p9.2
  else
  (xx_makes p9.2).bind fun p12 =>
  if x7 < p12.1 then
    xl_areFewestSo_254 p12.2
  else
  xl_areFewestSo_238 p12.2
noncomputable def xl_areFewestSo_212 (x2 : Int) (x7 : Int) (s0 : Int) (s1 : Int) (μ : Mem) : Option (Int × Mem) :=
  if s0 = s1 then
  xl_areFewestSo_215 x2 x7 μ
  else
    xl_areFewestSo_254 μ
noncomputable def xl_areFewestSo_193 (x2 : Int) (x3 : Int) (x6 : Int) (x7 : Int) (s0 : Int) (s1 : Int) (μ : Mem) : Option (Int × Mem) :=
  if s0 = s1 then
  if 0 ≤ x6 then
    (xl_size x6).bind fun v13 =>
    xl_areFewestSo_212 x2 x7 x3 v13 μ
  else
  xl_areFewestSo_212 x2 x7 x3 (-5) μ
  else
    xl_areFewestSo_254 μ
noncomputable def xl_areFewestSo_168 (x2 : Int) (x3 : Int) (x4 : Int) (x6 : Int) (x7 : Int) (x8 : Int) (μ : Mem) : Option (Int × Mem) :=
  if x8 = 0 then
    xl_areFewestSo_254 μ
  else
  if 7 < x2 then
    xl_areFewestSo_215 x2 x7 μ
  else
  if 0 ≤ x6 then
    xl_areFewestSo_193 x2 x3 x6 x7 x4 x6 μ
  else
  xl_areFewestSo_193 x2 x3 x6 x7 x4 (-5) μ
noncomputable def xl_areFewestSo_157 (K41 : Int → Int → Int → Int → Int → Int → Int → Int → Mem → Option (Int × Mem)) (x2 : Int) (x3 : Int) (x4 : Int) (x5 : Int) (x7 : Int) (x8 : Int) (x9 : Int) (s0 : Int) (μ : Mem) : Option (Int × Mem) :=
  bnd (w32 (x7 + 1)) fun v15 =>
  bnd (w32 (x9 + 1)) fun v16 =>
  K41 x2 x3 x4 x5 s0 v15 x8 v16 μ
noncomputable def xl_areFewestSo_155 (K41 : Int → Int → Int → Int → Int → Int → Int → Int → Mem → Option (Int × Mem)) (x2 : Int) (x3 : Int) (x4 : Int) (x5 : Int) (x6 : Int) (x7 : Int) (x8 : Int) (x9 : Int) (μ : Mem) : Option (Int × Mem) :=
  xl_areFewestSo_157 K41 x2 x3 x4 x5 x7 x8 x9 x6 μ
noncomputable def xl_areFewestSo_150 (K41 : Int → Int → Int → Int → Int → Int → Int → Int → Mem → Option (Int × Mem)) (x2 : Int) (x3 : Int) (x4 : Int) (x5 : Int) (x7 : Int) (x8 : Int) (x9 : Int) (μ : Mem) : Option (Int × Mem) :=
  xl_areFewestSo_157 K41 x2 x3 x4 x5 x7 x8 x9 x9 μ
noncomputable def xl_areFewestSo_125 (K41 : Int → Int → Int → Int → Int → Int → Int → Int → Mem → Option (Int × Mem)) (x2 : Int) (x3 : Int) (x4 : Int) (x5 : Int) (x6 : Int) (x7 : Int) (x8 : Int) (x9 : Int) (s0 : Int) (μ : Mem) : Option (Int × Mem) :=
  if s0 = 0 then
    xl_areFewestSo_155 K41 x2 x3 x4 x5 x6 x7 x8 x9 μ
  else
  if x6 < 0 then
    xl_areFewestSo_150 K41 x2 x3 x4 x5 x7 x8 x9 μ
  else
  (xl_size x9).bind fun v17 =>
  (xl_size x6).bind fun v18 =>
  if v18 ≤ v17 then
    xl_areFewestSo_155 K41 x2 x3 x4 x5 x6 x7 x8 x9 μ
  else
  xl_areFewestSo_150 K41 x2 x3 x4 x5 x7 x8 x9 μ
noncomputable def xl_areFewestSo_108 (K41 : Int → Int → Int → Int → Int → Int → Int → Int → Mem → Option (Int × Mem)) (x2 : Int) (x3 : Int) (x4 : Int) (x5 : Int) (x6 : Int) (x7 : Int) (x8 : Int) (x9 : Int) (x10 : Int) (μ : Mem) : Option (Int × Mem) :=
  (xx_mixOf x10 2 μ).bind fun p14 =>
  if p14.1 = x5 then
  xl_areFewestSo_125 K41 x2 x3 x4 x5 x6 x7 x8 x9 1 p14.2
  else
    xl_areFewestSo_125 K41 x2 x3 x4 x5 x6 x7 x8 x9 0 p14.2
noncomputable def xl_areFewestSo_100 (K61 : Int → Int → Int → Int → Int → Int → Int → Int → Int → Int → Mem → Option (Int × Mem)) (x2 : Int) (x3 : Int) (x4 : Int) (x5 : Int) (x6 : Int) (x7 : Int) (x8 : Int) (x9 : Int) (x11 : Int) (s0 : Int) (μ : Mem) : Option (Int × Mem) :=
  bnd (w32 (x11 + 1)) fun v19 =>
  K61 x2 x3 x4 x5 x6 x7 x8 x9 s0 v19 μ
noncomputable def xl_areFewestSo_61 (K41 : Int → Int → Int → Int → Int → Int → Int → Int → Mem → Option (Int × Mem)) : Nat → Int → Int → Int → Int → Int → Int → Int → Int → Int → Int → Mem → Option (Int × Mem)
  | 0, _, _, _, _, _, _, _, _, _, _, _ => none
  | n + 1, x2, x3, x4, x5, x6, x7, x8, x9, x10, x11, μ =>
  if x2 ≤ x11 then
    xl_areFewestSo_108 K41 x2 x3 x4 x5 x6 x7 x8 x9 x10 μ
  else
  if (and32 (ishr32 x9 x11) 1) = 1 then
  (xx_ranked x11 μ).bind fun v20 =>
  (xx_jarOf v20 0 μ).bind fun p21 =>
  (xx_together x10 p21.1 p21.2).bind fun v22 =>
  xl_areFewestSo_100 (xl_areFewestSo_61 K41 n) x2 x3 x4 x5 x6 x7 x8 x9 x11 v22 p21.2
  else
    xl_areFewestSo_100 (xl_areFewestSo_61 K41 n) x2 x3 x4 x5 x6 x7 x8 x9 x11 x10 μ
noncomputable def xl_areFewestSo_41 : Nat → Int → Int → Int → Int → Int → Int → Int → Int → Mem → Option (Int × Mem)
  | 0, _, _, _, _, _, _, _, _, _ => none
  | n + 1, x2, x3, x4, x5, x6, x7, x8, x9, μ =>
  if (shl32 1 x2) ≤ x9 then
    xl_areFewestSo_168 x2 x3 x4 x6 x7 x8 μ
  else
  if 8 ≤ x2 then
    xl_areFewestSo_168 x2 x3 x4 x6 x7 x8 μ
  else
  xl_areFewestSo_61 (xl_areFewestSo_41 n) FU x2 x3 x4 x5 x6 x7 x8 x9 0 0 μ
noncomputable def xl_areFewestSo (a1 : Int) (μ : Mem) : Option (Int × Mem) :=
  (xx_count 0 μ).bind fun p1 =>
  bnd (p1.1) fun v2 =>
  (xx_fewest a1 0 p1.2).bind fun p3 =>
  bnd (p3.1) fun v4 =>
  (xx_fewest a1 1 p3.2).bind fun p5 =>
  bnd (p5.1) fun v6 =>
  (xx_mixOf a1 2 p5.2).bind fun p7 =>
  bnd (p7.1) fun v8 =>
  xl_areFewestSo_41 FU v2 v4 v6 v8 (-1) 0 1 0 p7.2
noncomputable def xl_areRulesSo_110 (s0 : Int) (μ : Mem) : Option (Int × Mem) :=
  if s0 = 0 ∨ s0 = 1 then
  some (s0, μ)
  else none
noncomputable def xl_areRulesSo_109 (μ : Mem) : Option (Int × Mem) :=
  xl_areRulesSo_110 0 μ
noncomputable def xl_areRulesSo_92 (x4 : Int) (s0 : Int) (s1 : Int) (μ : Mem) : Option (Int × Mem) :=
  if s0 = s1 then
  (xx_count 1 μ).bind fun p8 =>
  if p8.1 = x4 then
  xl_areRulesSo_110 1 p8.2
  else
    xl_areRulesSo_109 p8.2
  else
    xl_areRulesSo_109 μ
noncomputable def xl_areRulesSo_81 (x1 : Int) (x4 : Int) (s0 : Int) (μ : Mem) : Option (Int × Mem) :=
  if x1 = x4 then
  xl_areRulesSo_92 x4 s0 1 μ
  else
    xl_areRulesSo_92 x4 s0 0 μ
noncomputable def xl_areRulesSo_65 (x1 : Int) (x2 : Int) (x3 : Int) (x4 : Int) (μ : Mem) : Option (Int × Mem) :=
  if x3 = x2 then
  if x2 = (-5) then
  xl_areRulesSo_81 x1 x4 1 μ
  else
    xl_areRulesSo_81 x1 x4 0 μ
  else
    xl_areRulesSo_109 μ
noncomputable def xl_areRulesSo_52 (K27 : Int → Int → Int → Int → Int → Mem → Option (Int × Mem)) (x1 : Int) (x2 : Int) (x4 : Int) (x5 : Int) (s0 : Int) (μ : Mem) : Option (Int × Mem) :=
  (xx_undo μ).bind fun p11 =>
  bnd (p11.1) fun v12 =>
  bnd (w32 (x5 + (-1))) fun v13 =>
  K27 x1 x2 s0 x4 v13 p11.2
noncomputable def xl_areRulesSo_27 : Nat → Int → Int → Int → Int → Int → Mem → Option (Int × Mem)
  | 0, _, _, _, _, _, _ => none
  | n + 1, x1, x2, x3, x4, x5, μ =>
  if x5 < 0 then
    xl_areRulesSo_65 x1 x2 x3 x4 μ
  else
  (xx_drop x5 μ).bind fun p9 =>
  bnd (p9.1) fun v10 =>
  if v10 = x1 then
  xl_areRulesSo_52 (xl_areRulesSo_27 n) x1 x2 x4 x5 x5 p9.2
  else
    xl_areRulesSo_52 (xl_areRulesSo_27 n) x1 x2 x4 x5 x3 p9.2
noncomputable def xl_areRulesSo (μ : Mem) : Option (Int × Mem) :=
  (xx_count 2 μ).bind fun p1 =>
  bnd (p1.1) fun v2 =>
  (xx_needless p1.2).bind fun p3 =>
  bnd (p3.1) fun v4 =>
  (xx_count 1 p3.2).bind fun p5 =>
  bnd (p5.1) fun v6 =>
  bnd (w32 (v6 - 1)) fun v7 =>
  xl_areRulesSo_27 FU v2 v4 (-5) v6 v7 p5.2
noncomputable def xl_isPourSo_186 (s0 : Int) (μ : Mem) : Option (Int × Mem) :=
  if s0 = 0 ∨ s0 = 1 then
  some (s0, μ)
  else none
noncomputable def xl_isPourSo_185 (μ : Mem) : Option (Int × Mem) :=
  xl_isPourSo_186 0 μ
noncomputable def xl_isPourSo_152 (x6 : Int) (s0 : Int) (μ : Mem) : Option (Int × Mem) :=
  (xx_undo μ).bind fun p14 =>
  bnd (p14.1) fun v15 =>
  if s0 = 0 then
    xl_isPourSo_185 p14.2
  else
  if v15 < 0 then
    xl_isPourSo_185 p14.2
  else
  (xx_count 8 p14.2).bind fun p16 =>
  if p16.1 = x6 then
  xl_isPourSo_186 1 p16.2
  else
    xl_isPourSo_185 p16.2
noncomputable def xl_isPourSo_151 (x6 : Int) (μ : Mem) : Option (Int × Mem) :=
  xl_isPourSo_152 x6 0 μ
noncomputable def xl_isPourSo_95 (s0 : Int) (μ : Mem) : Option (Int × Mem) :=
  if s0 = 0 ∨ s0 = 1 then
  some (s0, μ)
  else none
noncomputable def xl_isPourSo_94 (μ : Mem) : Option (Int × Mem) :=
  xl_isPourSo_95 0 μ
noncomputable def xl_isPourSo (a1 : Int) (a2 : Int) (μ : Mem) : Option (Int × Mem) :=
  (xx_ifPoured a1 a2 μ).bind fun p1 =>
  bnd (p1.1) fun v2 =>
  (xx_jarOf a1 0 p1.2).bind fun p3 =>
  (xx_jarOf a2 0 p3.2).bind fun p4 =>
  (xx_together p3.1 p4.1 p4.2).bind fun v5 =>
  (xx_jarOf a1 1 p4.2).bind fun p6 =>
  (xx_jarOf a2 1 p6.2).bind fun p7 =>
  (xx_mixOf v5 0 p7.2).bind fun p8 =>
  bnd (w32 ((w32 (p6.1 + p7.1)) - p8.1)) fun v9 =>
  (xx_count 8 p8.2).bind fun p10 =>
  bnd (p10.1) fun v11 =>
  (xx_pour a1 a2 p10.2).bind fun p12 =>
  bnd (p12.1) fun v13 =>
  if v13 = (-5) then
  (xx_jarOf a1 0 p12.2).bind fun p21 =>
  if p21.1 = 0 then
  (xx_jarOf a2 3 p21.2).bind fun p22 =>
  if v2 = p22.1 then
  xl_isPourSo_95 1 p22.2
  else
    xl_isPourSo_94 p22.2
  else
    xl_isPourSo_94 p21.2
  else
    if v13 = v9 then
    (xx_jarOf a2 0 p12.2).bind fun p17 =>
    if p17.1 = v5 then
    (xx_jarOf a2 3 p17.2).bind fun p18 =>
    if p18.1 = v2 then
    (xx_jarOf a1 0 p18.2).bind fun p19 =>
    if p19.1 = 0 then
    (xx_count 8 p19.2).bind fun p20 =>
    if p20.1 = (w32 (v11 + v9)) then
    xl_isPourSo_152 v11 1 p20.2
    else
      xl_isPourSo_151 v11 p20.2
    else
      xl_isPourSo_151 v11 p19.2
    else
      xl_isPourSo_151 v11 p18.2
    else
      xl_isPourSo_151 v11 p17.2
    else
      xl_isPourSo_151 v11 p12.2
noncomputable def xl_isServeSo_229 (s0 : Int) (μ : Mem) : Option (Int × Mem) :=
  if s0 = 0 ∨ s0 = 1 then
  some (s0, μ)
  else none
noncomputable def xl_isServeSo_228 (μ : Mem) : Option (Int × Mem) :=
  xl_isServeSo_229 0 μ
noncomputable def xl_isServeSo_197 (x1 : Int) (s0 : Int) (μ : Mem) : Option (Int × Mem) :=
  (xx_undo μ).bind fun p13 =>
  bnd (p13.1) fun v14 =>
  if s0 = 0 then
    xl_isServeSo_228 p13.2
  else
  if v14 < 0 then
    xl_isServeSo_228 p13.2
  else
  (xx_waiting 0 p13.2).bind fun v15 =>
  if v15 = x1 then
  xl_isServeSo_229 1 p13.2
  else
    xl_isServeSo_228 p13.2
noncomputable def xl_isServeSo_196 (x1 : Int) (μ : Mem) : Option (Int × Mem) :=
  xl_isServeSo_197 x1 0 μ
noncomputable def xl_isServeSo_192 (x1 : Int) (μ : Mem) : Option (Int × Mem) :=
  xl_isServeSo_197 x1 1 μ
noncomputable def xl_isServeSo_161 (x1 : Int) (x2 : Int) (x6 : Int) (s0 : Int) (s1 : Int) (s2 : Int) (μ : Mem) : Option (Int × Mem) :=
  if s0 = (w32 (s1 + s2)) then
  (xx_count 6 μ).bind fun p18 =>
  if p18.1 = (w32 (x6 - 1)) then
  if x2 < 0 then
    xl_isServeSo_192 x1 p18.2
  else
  (xx_jarOf x2 0 p18.2).bind fun p19 =>
  if p19.1 = (-1) then
  xl_isServeSo_192 x1 p19.2
  else
    xl_isServeSo_196 x1 p19.2
  else
    xl_isServeSo_196 x1 p18.2
  else
    xl_isServeSo_196 x1 μ
noncomputable def xl_isServeSo_98 (x1 : Int) (x2 : Int) (s0 : Int) (μ : Mem) : Option (Int × Mem) :=
  (xx_count 13 μ).bind fun p6 =>
  bnd (p6.1) fun v7 =>
  (xx_count 14 p6.2).bind fun p8 =>
  bnd (p8.1) fun v9 =>
  (xx_count 6 p8.2).bind fun p10 =>
  bnd (p10.1) fun v11 =>
  (xx_serve p10.2).bind fun p12 =>
  if p12.1 = s0 then
  (xx_count 13 p12.2).bind fun p16 =>
  if p16.1 = (w32 (v7 + s0)) then
  (xx_count 14 p16.2).bind fun p17 =>
  if 0 ≤ x2 then
    xl_isServeSo_161 x1 x2 v11 p17.1 v9 1 p17.2
  else
  xl_isServeSo_161 x1 x2 v11 p17.1 v9 0 p17.2
  else
    xl_isServeSo_196 x1 p16.2
  else
    xl_isServeSo_196 x1 p12.2
noncomputable def xl_isServeSo_75 (x1 : Int) (x2 : Int) (μ : Mem) : Option (Int × Mem) :=
  if 0 ≤ x2 then
    (xx_jarOf x2 2 μ).bind fun p4 =>
    (xx_jarOf x2 2 p4.2).bind fun p5 =>
    xl_isServeSo_98 x1 x2 (w32 (p4.1 + (w32 (Int.tdiv p5.1 2)))) p5.2
  else
  xl_isServeSo_98 x1 x2 0 μ
noncomputable def xl_isServeSo_68 (K35 : Int → Int → Int → Mem → Option (Int × Mem)) (x1 : Int) (x3 : Int) (s0 : Int) (μ : Mem) : Option (Int × Mem) :=
  bnd (w32 (x3 + (-1))) fun v23 =>
  K35 x1 s0 v23 μ
noncomputable def xl_isServeSo_35 : Nat → Int → Int → Int → Mem → Option (Int × Mem)
  | 0, _, _, _, _ => none
  | n + 1, x1, x2, x3, μ =>
  if x3 < 0 then
    xl_isServeSo_75 x1 x2 μ
  else
  (xx_ranked x3 μ).bind fun v20 =>
  (xx_jarOf v20 0 μ).bind fun p21 =>
  (xx_alike x1 p21.1 1 p21.2).bind fun p22 =>
  if p22.1 = 1 then
  (xx_ranked x3 p22.2).bind fun v24 =>
  xl_isServeSo_68 (xl_isServeSo_35 n) x1 x3 v24 p22.2
  else
    xl_isServeSo_68 (xl_isServeSo_35 n) x1 x3 x2 p22.2
noncomputable def xl_isServeSo_24 (s0 : Int) (μ : Mem) : Option (Int × Mem) :=
  if s0 = 0 ∨ s0 = 1 then
  some (s0, μ)
  else none
noncomputable def xl_isServeSo (μ : Mem) : Option (Int × Mem) :=
  (xx_waiting 0 μ).bind fun v1 =>
  if 0 ≤ v1 then
    (xx_count 0 μ).bind fun p2 =>
    bnd (w32 (p2.1 - 1)) fun v3 =>
    xl_isServeSo_35 FU v1 (-1) v3 p2.2
  else
  (xx_serve μ).bind fun p25 =>
  if p25.1 = (-5) then
  xl_isServeSo_24 1 p25.2
  else
    xl_isServeSo_24 0 p25.2
