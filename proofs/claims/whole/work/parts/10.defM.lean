noncomputable def mm_in_15 (s0 : Int) : Option Int :=
  if s0 = 0 ∨ s0 = 1 then
  some (s0)
  else none
noncomputable def mm_in_14 : Option Int :=
  mm_in_15 0
noncomputable def mm_in (a1 : Int) (a2 : Int) (a3 : Int) : Option Int :=
  if a1 < a2 then
    mm_in_14
  else
  if a3 < a1 then
    mm_in_14
  else
  mm_in_15 1
noncomputable def mm_isMix (a1 : Int) : Option Int :=
  (mm_in a1 0 6560).bind fun v1 =>
  if v1 = 0 ∨ v1 = 1 then
  some (v1)
  else none
noncomputable def mm_mixed_58 (x2 : Int) : Option Int :=
  some (x2)
noncomputable def mm_mixed_13 : Nat → Int → Int → Int → Int → Int → Option Int
  | 0, _, _, _, _, _ => none
  | n + 1, x2, x3, x4, x5, x6 =>
  if 8 ≤ x6 then
    mm_mixed_58 x2
  else
  bnd (w32 (x2 + (w32 ((Int.tmod (w32 ((Int.tmod x4 3) + (Int.tmod x5 3))) 3) * x3)))) fun v1 =>
  bnd (w32 (x3 * 3)) fun v2 =>
  bnd (w32 (Int.tdiv x4 3)) fun v3 =>
  bnd (w32 (Int.tdiv x5 3)) fun v4 =>
  bnd (w32 (x6 + 1)) fun v5 =>
  mm_mixed_13 n v1 v2 v3 v4 v5
noncomputable def mm_mixed (a1 : Int) (a2 : Int) : Option Int :=
  mm_mixed_13 FU 0 1 a1 a2 0
noncomputable def mm_layBland_168 (x2 : Int) (μ : Mem) : Option (Int × Mem) :=
  some (x2, μ)
noncomputable def mm_layBland_162 (K34 : Int → Int → Int → Mem → Option (Int × Mem)) (x1 : Int) (x2 : Int) (x3 : Int) (μ : Mem) : Option (Int × Mem) :=
  bnd (w32 (x3 + 1)) fun v2 =>
  K34 x1 x2 v2 μ
noncomputable def mm_layBland_156 (K108 : Int → Int → Int → Int → Int → Mem → Option (Int × Mem)) (x1 : Int) (x2 : Int) (x3 : Int) (x4 : Int) (x5 : Int) (μ : Mem) : Option (Int × Mem) :=
  bnd (w32 (x5 + 1)) fun v6 =>
  K108 x1 x2 x3 x4 v6 μ
noncomputable def mm_layBland_108 (K34 : Int → Int → Int → Mem → Option (Int × Mem)) : Nat → Int → Int → Int → Int → Int → Mem → Option (Int × Mem)
  | 0, _, _, _, _, _, _ => none
  | n + 1, x1, x2, x3, x4, x5, μ =>
  if 6561 ≤ x5 then
    mm_layBland_162 K34 x1 x2 x3 μ
  else
  (aget μ 9 6561 x5).bind fun v5 =>
  if v5 = 0 then
    mm_layBland_156 (mm_layBland_108 K34 n) x1 x2 x3 x4 x5 μ
  else
  (mm_mixed x5 x4).bind fun v7 =>
  (aput μ 6 6561 v7 (nzz 1)).bind fun μ8 =>
  (mm_mixed v7 x4).bind fun v9 =>
  (aput μ8 6 6561 v9 (nzz 1)).bind fun μ10 =>
  mm_layBland_156 (mm_layBland_108 K34 n) x1 x2 x3 x4 x5 μ10
noncomputable def mm_layBland_105 (K34 : Int → Int → Int → Mem → Option (Int × Mem)) (x1 : Int) (x2 : Int) (x3 : Int) (x4 : Int) (μ : Mem) : Option (Int × Mem) :=
  mm_layBland_108 K34 FU x1 x2 x3 x4 0 μ
noncomputable def mm_layBland_77 (K34 : Int → Int → Int → Mem → Option (Int × Mem)) : Nat → Int → Int → Int → Int → Int → Mem → Option (Int × Mem)
  | 0, _, _, _, _, _, _ => none
  | n + 1, x1, x2, x3, x4, x5, μ =>
  if 6561 ≤ x5 then
    mm_layBland_105 K34 x1 x2 x3 x4 μ
  else
  (aget μ 6 6561 x5).bind fun v11 =>
  (aput μ 9 6561 x5 (nzz v11)).bind fun μ12 =>
  bnd (w32 (x5 + 1)) fun v13 =>
  mm_layBland_77 K34 n x1 x2 x3 x4 v13 μ12
noncomputable def mm_layBland_34 : Nat → Int → Int → Int → Mem → Option (Int × Mem)
  | 0, _, _, _, _ => none
  | n + 1, x1, x2, x3, μ =>
  if (μ 1 34) ≤ x3 then
    mm_layBland_168 x2 μ
  else
  (aget μ 1 60 (w32 (35 + x3))).bind fun v1 =>
  if x3 = x1 then
    mm_layBland_162 (mm_layBland_34 n) x1 x2 x3 μ
  else
  (aget μ 6 6561 v1).bind fun v3 =>
  if v3 = 0 then
  bnd (w32 (x2 + 1)) fun v4 =>
  mm_layBland_77 (mm_layBland_34 n) FU x1 v4 x3 v1 0 μ
  else
    mm_layBland_162 (mm_layBland_34 n) x1 x2 x3 μ
noncomputable def mm_layBland_30 (x1 : Int) (μ : Mem) : Option (Int × Mem) :=
  mm_layBland_34 FU x1 0 0 μ
noncomputable def mm_layBland_23 (K2 : Int → Int → Mem → Option (Int × Mem)) (x1 : Int) (x2 : Int) (s1 : Int) (s2 : Int) (μ : Mem) : Option (Int × Mem) :=
  (aput μ 6 6561 s1 (nzz s2)).bind fun μ14 =>
  bnd (w32 (x2 + 1)) fun v15 =>
  K2 x1 v15 μ14
noncomputable def mm_layBland_2 : Nat → Int → Int → Mem → Option (Int × Mem)
  | 0, _, _, _ => none
  | n + 1, x1, x2, μ =>
  if 6561 ≤ x2 then
    mm_layBland_30 x1 μ
  else
  if x2 = 0 then
  mm_layBland_23 (mm_layBland_2 n) x1 x2 x2 1 μ
  else
    mm_layBland_23 (mm_layBland_2 n) x1 x2 x2 0 μ
noncomputable def mm_layBland (a1 : Int) (μ : Mem) : Option (Int × Mem) :=
  mm_layBland_2 FU a1 0 μ
noncomputable def mm_lay_130 (μ : Mem) : Option Mem :=
  bnd (mst μ 0 8 1) fun μ3 =>
  some μ3
noncomputable def mm_lay_124 (K64 : Int → Int → Mem → Option Mem) (x1 : Int) (x2 : Int) (μ : Mem) : Option Mem :=
  bnd (w32 (x2 + 1)) fun v5 =>
  K64 x1 v5 μ
noncomputable def mm_lay_91 (K64 : Int → Int → Mem → Option Mem) : Nat → Int → Int → Int → Int → Mem → Option Mem
  | 0, _, _, _, _, _ => none
  | n + 1, x1, x2, x3, x4, μ =>
  if x1 ≤ x4 then
    mm_lay_124 K64 x1 x2 μ
  else
  if x3 = 0 then
    mm_lay_124 K64 x1 x2 μ
  else
  (aget μ 8 6561 x4).bind fun v6 =>
  (mm_mixed x2 v6).bind fun v7 =>
  (aput μ 7 6561 v7 x2).bind fun μ8 =>
  bnd (w32 (x4 + 1)) fun v9 =>
  mm_lay_91 K64 n x1 x2 x3 v9 μ8
noncomputable def mm_lay_87 (K64 : Int → Int → Mem → Option Mem) (x1 : Int) (x2 : Int) (s0 : Int) (μ : Mem) : Option Mem :=
  mm_lay_91 K64 FU x1 x2 s0 0 μ
noncomputable def mm_lay_64 : Nat → Int → Int → Mem → Option Mem
  | 0, _, _, _ => none
  | n + 1, x1, x2, μ =>
  if 6561 ≤ x2 then
    mm_lay_130 μ
  else
  (aget μ 7 6561 x2).bind fun v4 =>
  if v4 = (-5) then
  mm_lay_87 (mm_lay_64 n) x1 x2 1 μ
  else
    mm_lay_87 (mm_lay_64 n) x1 x2 0 μ
noncomputable def mm_lay_62 (x1 : Int) (μ : Mem) : Option Mem :=
  mm_lay_64 FU x1 0 μ
noncomputable def mm_lay_56 (K22 : Int → Int → Mem → Option Mem) (x1 : Int) (x2 : Int) (μ : Mem) : Option Mem :=
  bnd (w32 (x2 + 1)) fun v12 =>
  K22 x1 v12 μ
noncomputable def mm_lay_22 : Nat → Int → Int → Mem → Option Mem
  | 0, _, _, _ => none
  | n + 1, x1, x2, μ =>
  if 6561 ≤ x2 then
    mm_lay_62 x1 μ
  else
  (aput μ 7 6561 x2 (-5)).bind fun μ10 =>
  (aget μ10 6 6561 x2).bind fun v11 =>
  if v11 = 0 then
    mm_lay_56 (mm_lay_22 n) x1 x2 μ10
  else
  (aput μ10 8 6561 x1 x2).bind fun μ13 =>
  bnd (w32 (x1 + 1)) fun v14 =>
  mm_lay_56 (mm_lay_22 n) v14 x2 μ13
noncomputable def mm_lay (μ : Mem) : Option Mem :=
  if (μ 0 8) = 0 then
    (mm_layBland (-5) μ).bind fun p1 =>
    bnd (mst p1.2 0 9 p1.1) fun μ2 =>
    mm_lay_22 FU 0 0 μ2
  else
  some μ
noncomputable def mm_taste (a1 : Int) (μ : Mem) : Option (Int × Mem) :=
  (mm_lay μ).bind fun μ1 =>
  (aget μ1 7 6561 a1).bind fun v2 =>
  some (v2, μ1)
noncomputable def mm_alike_14 (μ : Mem) : Option (Int × Mem) :=
  some ((-2), μ)
noncomputable def mm_alike_75 (s0 : Int) (μ : Mem) : Option (Int × Mem) :=
  some (s0, μ)
noncomputable def mm_alike_63 (s0 : Int) (μ : Mem) : Option (Int × Mem) :=
  if s0 = 0 then
    mm_alike_75 0 μ
  else
  mm_alike_75 1 μ
noncomputable def mm_alike (a1 : Int) (a2 : Int) (a3 : Int) (μ : Mem) : Option (Int × Mem) :=
  (mm_isMix a1).bind fun v1 =>
  if v1 = 0 then
    mm_alike_14 μ
  else
  (mm_isMix a2).bind fun v2 =>
  if v2 = 0 then
  mm_alike_14 μ
  else
    if a3 = 0 then
      (mm_taste a1 μ).bind fun p3 =>
      (mm_taste a2 p3.2).bind fun p4 =>
      if p3.1 = p4.1 then
      mm_alike_63 1 p4.2
      else
        mm_alike_63 0 p4.2
    else
    (mm_mixed a1 a1).bind fun v5 =>
    (mm_mixed a2 v5).bind fun v6 =>
    (mm_taste v6 μ).bind fun p7 =>
    if p7.1 = 0 then
    mm_alike_63 1 p7.2
    else
      mm_alike_63 0 p7.2
noncomputable def mm_clearText (μ : Mem) : Option (Int × Mem) :=
  bnd (mst μ 0 7 0) fun μ1 =>
  some ((μ 0 7), μ1)
noncomputable def mm_mixIn (a1 : Int) (μ : Mem) : Option Int :=
  (aget μ 1 60 (w32 ((w32 (9 + (w32 (2 * a1)))) + 1))).bind fun v1 =>
  some (v1)
noncomputable def mm_units_21 (x1 : Int) : Option Int :=
  some (x1)
noncomputable def mm_units_4 : Nat → Int → Int → Option Int
  | 0, _, _ => none
  | n + 1, x1, x2 =>
  if x2 ≤ 0 then
    mm_units_21 x1
  else
  bnd (w32 (x1 + (Int.tmod x2 3))) fun v1 =>
  bnd (w32 (Int.tdiv x2 3)) fun v2 =>
  mm_units_4 n v1 v2
noncomputable def mm_units (a1 : Int) : Option Int :=
  mm_units_4 FU 0 a1
noncomputable def mm_unitsInJars_32 (x1 : Int) (μ : Mem) : Option Int :=
  some (x1)
noncomputable def mm_unitsInJars_4 : Nat → Int → Int → Mem → Option Int
  | 0, _, _, _ => none
  | n + 1, x1, x2, μ =>
  if (μ 1 8) ≤ x2 then
    mm_unitsInJars_32 x1 μ
  else
  (mm_mixIn x2 μ).bind fun v1 =>
  (mm_units v1).bind fun v2 =>
  bnd (w32 (x1 + v2)) fun v3 =>
  bnd (w32 (x2 + 1)) fun v4 =>
  mm_unitsInJars_4 n v3 v4 μ
noncomputable def mm_unitsInJars (μ : Mem) : Option Int :=
  mm_unitsInJars_4 FU 0 0 μ
noncomputable def mm_nextShelf_58 (x2 : Int) (μ : Mem) : Option (Int × Mem) :=
  some (x2, μ)
noncomputable def mm_nextShelf_51 (K5 : Int → Int → Int → Mem → Option (Int × Mem)) (x1 : Int) (x3 : Int) (s0 : Int) (μ : Mem) : Option (Int × Mem) :=
  bnd (w32 (x3 + 1)) fun v4 =>
  K5 x1 s0 v4 μ
noncomputable def mm_nextShelf_50 (K5 : Int → Int → Int → Mem → Option (Int × Mem)) (x1 : Int) (x2 : Int) (x3 : Int) (μ : Mem) : Option (Int × Mem) :=
  mm_nextShelf_51 K5 x1 x3 x2 μ
noncomputable def mm_nextShelf_45 (K5 : Int → Int → Int → Mem → Option (Int × Mem)) (x1 : Int) (x3 : Int) (x4 : Int) (μ : Mem) : Option (Int × Mem) :=
  mm_nextShelf_51 K5 x1 x3 x4 μ
noncomputable def mm_nextShelf_5 : Nat → Int → Int → Int → Mem → Option (Int × Mem)
  | 0, _, _, _, _ => none
  | n + 1, x1, x2, x3, μ =>
  if (μ 1 8) ≤ x3 then
    mm_nextShelf_58 x2 μ
  else
  (mm_mixIn x3 μ).bind fun v1 =>
  (mm_taste v1 μ).bind fun p2 =>
  bnd (p2.1) fun v3 =>
  if v3 ≤ x1 then
    mm_nextShelf_50 (mm_nextShelf_5 n) x1 x2 x3 p2.2
  else
  if x2 = (-5) then
    mm_nextShelf_45 (mm_nextShelf_5 n) x1 x3 v3 p2.2
  else
  if x2 ≤ v3 then
    mm_nextShelf_50 (mm_nextShelf_5 n) x1 x2 x3 p2.2
  else
  mm_nextShelf_45 (mm_nextShelf_5 n) x1 x3 v3 p2.2
noncomputable def mm_nextShelf (a1 : Int) (μ : Mem) : Option (Int × Mem) :=
  mm_nextShelf_5 FU a1 (-5) 0 μ
noncomputable def mm_shelves_26 (x1 : Int) (μ : Mem) : Option (Int × Mem) :=
  some (x1, μ)
noncomputable def mm_shelves_8 : Nat → Int → Int → Mem → Option (Int × Mem)
  | 0, _, _, _ => none
  | n + 1, x1, x2, μ =>
  if x2 = (-5) then
    mm_shelves_26 x1 μ
  else
  bnd (w32 (x1 + 1)) fun v3 =>
  (mm_nextShelf x2 μ).bind fun p4 =>
  bnd (p4.1) fun v5 =>
  mm_shelves_8 n v3 v5 p4.2
noncomputable def mm_shelves (μ : Mem) : Option (Int × Mem) :=
  (mm_nextShelf (-1) μ).bind fun p1 =>
  bnd (p1.1) fun v2 =>
  mm_shelves_8 FU 0 v2 p1.2
noncomputable def mm_strength (μ : Mem) : Option (Int × Mem) :=
  (mm_lay μ).bind fun μ1 =>
  some ((μ1 0 9), μ1)
noncomputable def mm_power_19 (x1 : Int) : Option Int :=
  some (x1)
noncomputable def mm_power_4 : Nat → Int → Int → Int → Option Int
  | 0, _, _, _ => none
  | n + 1, x0, x1, x2 =>
  if x0 ≤ x2 then
    mm_power_19 x1
  else
  bnd (w32 (x1 * 3)) fun v1 =>
  bnd (w32 (x2 + 1)) fun v2 =>
  mm_power_4 n x0 v1 v2
noncomputable def mm_power (a1 : Int) : Option Int :=
  mm_power_4 FU a1 1 0
noncomputable def mm_count_141 (x1 : Int) (μ : Mem) : Option (Int × Mem) :=
  (aget μ 1 60 (w32 ((w32 (52 + x1)) - 7))).bind fun v7 =>
  some (v7, μ)
noncomputable def mm_count_159 (x1 : Int) (μ : Mem) : Option (Int × Mem) :=
  (aget μ 1 60 (w32 ((w32 (56 + x1)) - 12))).bind fun v9 =>
  some (v9, μ)
noncomputable def mm_count (a1 : Int) (μ : Mem) : Option (Int × Mem) :=
  if a1 = 0 then
    some ((μ 1 8), μ)
  else
  if a1 = 1 then
    some ((μ 1 34), μ)
  else
  if a1 = 2 then
    (mm_strength μ).bind fun p1 =>
    some (p1.1, p1.2)
  else
  if a1 = 3 then
    (mm_strength μ).bind fun p2 =>
    (mm_power p2.1).bind fun v3 =>
    some (v3, p2.2)
  else
  if a1 = 4 then
    (mm_strength μ).bind fun p4 =>
    (mm_power (w32 (8 - p4.1))).bind fun v5 =>
    some (v5, p4.2)
  else
  if a1 = 5 then
    (mm_shelves μ).bind fun p6 =>
    some (p6.1, p6.2)
  else
  if a1 = 6 then
    some ((μ 1 43), μ)
  else
  if a1 = 7 then
    mm_count_141 a1 μ
  else
  if a1 = 8 then
    mm_count_141 a1 μ
  else
  if a1 = 9 then
    mm_count_141 a1 μ
  else
  if a1 = 10 then
    mm_count_141 a1 μ
  else
  if a1 = 11 then
    (mm_unitsInJars μ).bind fun v8 =>
    some (v8, μ)
  else
  if a1 = 12 then
    mm_count_159 a1 μ
  else
  if a1 = 13 then
    mm_count_159 a1 μ
  else
  if a1 = 14 then
    mm_count_159 a1 μ
  else
  if a1 = 15 then
    mm_count_159 a1 μ
  else
  if a1 = 16 then
    some ((μ 0 3), μ)
  else
  if a1 = 17 then
    some ((μ 0 7), μ)
  else
  some ((-2), μ)
noncomputable def mm_isNext_40 (s0 : Int) (μ : Mem) : Option Int :=
  if s0 = 0 ∨ s0 = 1 then
  some (s0)
  else none
noncomputable def mm_isNext_39 (μ : Mem) : Option Int :=
  mm_isNext_40 0 μ
noncomputable def mm_isNext (a1 : Int) (a2 : Int) (μ : Mem) : Option Int :=
  if (μ 0 15) = 0 then
  if (μ 0 7) ≤ (μ 0 14) then
    mm_isNext_39 μ
  else
  (aget μ 5 60 (μ 0 14)).bind fun v1 =>
  (mm_in v1 a1 a2).bind fun v2 =>
  if v2 = 0 then
    mm_isNext_39 μ
  else
  mm_isNext_40 1 μ
  else
    mm_isNext_39 μ
noncomputable def mm_sign_78 (x3 : Int) (s1 : Int) (s2 : Int) (μ : Mem) : Option (Int × Mem) :=
  bnd (mst μ 0 14 (w32 (s1 + s2))) fun μ2 =>
  some (x3, μ2)
noncomputable def mm_sign_58 (x3 : Int) (s1 : Int) (μ : Mem) : Option (Int × Mem) :=
  if s1 = 0 ∨ s1 = 1 then
  bnd (mst μ 0 15 s1) fun μ1 =>
  if (μ1 0 15) = 0 then
    mm_sign_78 x3 (μ1 0 14) 1 μ1
  else
  mm_sign_78 x3 (μ1 0 14) 0 μ1
  else none
noncomputable def mm_sign_53 (x3 : Int) (μ : Mem) : Option (Int × Mem) :=
  mm_sign_58 x3 1 μ
noncomputable def mm_sign_24 (x1 : Int) (x2 : Int) (s0 : Int) (μ : Mem) : Option (Int × Mem) :=
  if (μ 0 15) = 0 then
  if (μ 0 7) ≤ (μ 0 14) then
    mm_sign_53 s0 μ
  else
  (mm_in s0 x1 x2).bind fun v3 =>
  if v3 = 0 then
  mm_sign_53 s0 μ
  else
    mm_sign_58 s0 0 μ
  else
    mm_sign_53 s0 μ
noncomputable def mm_sign (a1 : Int) (a2 : Int) (μ : Mem) : Option (Int × Mem) :=
  if (μ 0 7) ≤ (μ 0 14) then
    mm_sign_24 a1 a2 0 μ
  else
  (aget μ 5 60 (μ 0 14)).bind fun v4 =>
  mm_sign_24 a1 a2 v4 μ
noncomputable def mm_signs_49 (s0 : Int) (μ : Mem) : Option Mem :=
  (mm_sign 61 61 μ).bind fun p7 =>
  bnd (p7.1) fun v8 =>
  some p7.2
noncomputable def mm_signs_30 (x4 : Int) (s0 : Int) (μ : Mem) : Option Mem :=
  if x4 = 0 then
  mm_signs_49 0 μ
  else
    (mm_sign x4 x4 μ).bind fun p6 =>
    mm_signs_49 p6.1 p6.2
noncomputable def mm_signs (a1 : Int) (a2 : Int) (a3 : Int) (a4 : Int) (μ : Mem) : Option Mem :=
  (mm_sign a1 a1 μ).bind fun p1 =>
  bnd (p1.1) fun v2 =>
  (mm_sign a2 a2 p1.2).bind fun p3 =>
  bnd (p3.1) fun v4 =>
  if a3 = 0 then
  mm_signs_30 a4 0 p3.2
  else
    (mm_sign a3 a3 p3.2).bind fun p5 =>
    mm_signs_30 a4 p5.1 p5.2
noncomputable def mm_mix_145 (x1 : Int) (μ : Mem) : Option (Int × Mem) :=
  some (x1, μ)
noncomputable def mm_mix_133 (K14 : Int → Int → Mem → Option (Int × Mem)) (x1 : Int) (μ : Mem) : Option (Int × Mem) :=
  (mm_isNext 97 104 μ).bind fun v6 =>
  K14 x1 v6 μ
noncomputable def mm_mix_104 (K14 : Int → Int → Mem → Option (Int × Mem)) (x1 : Int) (x3 : Int) (x4 : Int) (μ : Mem) : Option (Int × Mem) :=
  bnd (mst μ 0 16 (w32 ((μ 0 16) + x4))) fun μ8 =>
  (aget μ8 1 60 x3).bind fun v9 =>
  bnd (mst μ8 0 17 (w32 ((μ8 0 17) + (w32 (x4 * v9))))) fun μ10 =>
  mm_mix_133 K14 x1 μ10
noncomputable def mm_mix_84 (K14 : Int → Int → Mem → Option (Int × Mem)) : Nat → Int → Int → Int → Int → Int → Mem → Option (Int × Mem)
  | 0, _, _, _, _, _, _ => none
  | n + 1, x1, x3, x4, x5, x6, μ =>
  if x4 ≤ x6 then
    mm_mix_104 K14 x1 x3 x4 μ
  else
  (mm_mixed x1 x5).bind fun v11 =>
  bnd (w32 (x6 + 1)) fun v12 =>
  mm_mix_84 K14 n v11 x3 x4 x5 v12 μ
noncomputable def mm_mix_68 (K14 : Int → Int → Mem → Option (Int × Mem)) (x1 : Int) (x3 : Int) (x4 : Int) (μ : Mem) : Option (Int × Mem) :=
  if (μ 0 15) = 0 then
  (mm_power x3).bind fun v7 =>
  mm_mix_84 K14 FU x1 x3 x4 v7 0 μ
  else
    mm_mix_133 K14 x1 μ
noncomputable def mm_mix_14 : Nat → Int → Int → Mem → Option (Int × Mem)
  | 0, _, _, _ => none
  | n + 1, x1, x2, μ =>
  if x2 = 0 then
    mm_mix_145 x1 μ
  else
  (mm_sign 97 104 μ).bind fun p3 =>
  bnd (w32 (p3.1 - 97)) fun v4 =>
  (mm_isNext 49 57 p3.2).bind fun v5 =>
  if v5 = 0 then
    mm_mix_68 (mm_mix_14 n) x1 v4 1 p3.2
  else
  (aget p3.2 5 60 (p3.2 0 14)).bind fun v13 =>
  bnd (w32 (v13 - 48)) fun v14 =>
  bnd (mst p3.2 0 14 (w32 ((p3.2 0 14) + 1))) fun μ15 =>
  mm_mix_68 (mm_mix_14 n) x1 v4 v14 μ15
noncomputable def mm_mix (μ : Mem) : Option (Int × Mem) :=
  bnd (mst μ 0 16 0) fun μ1 =>
  bnd (mst μ1 0 17 0) fun μ2 =>
  mm_mix_14 FU 0 1 μ2
noncomputable def mm_comes_25 (μ : Mem) : Option (Int × Mem) :=
  some ((-3), μ)
noncomputable def mm_comes (a1 : Int) (a2 : Int) (a3 : Int) (μ : Mem) : Option (Int × Mem) :=
  if (μ 1 8) = 12 then
    mm_comes_25 μ
  else
  if (μ 1 33) = 200 then
  mm_comes_25 μ
  else
    (aput μ 1 60 (w32 (9 + (w32 (2 * (μ 1 8))))) (μ 1 33)).bind fun μ1 =>
    (aput μ1 1 60 (w32 ((w32 (9 + (w32 (2 * (μ1 1 8))))) + 1)) a1).bind fun μ2 =>
    bnd (mst μ2 1 8 (w32 ((μ2 1 8) + 1))) fun μ3 =>
    bnd (mst μ3 1 33 (w32 ((μ3 1 33) + 1))) fun μ4 =>
    bnd (mst μ4 1 52 (w32 ((μ4 1 52) + a2))) fun μ5 =>
    bnd (mst μ5 1 56 (w32 ((μ5 1 56) + a3))) fun μ6 =>
    (mm_units a1).bind fun v7 =>
    bnd (mst μ6 1 53 (w32 ((μ6 1 53) + (w32 (a2 - v7))))) fun μ8 =>
    some ((μ 1 33), μ8)
noncomputable def mm_rules (a1 : Int) (μ : Mem) : Option (Int × Mem) :=
  if (μ 1 34) = 8 then
  some ((-3), μ)
  else
    (aput μ 1 60 (w32 (35 + (μ 1 34))) a1).bind fun μ1 =>
    bnd (mst μ1 1 34 (w32 ((μ1 1 34) + 1))) fun μ2 =>
    some (0, μ2)
noncomputable def mm_wants (a1 : Int) (μ : Mem) : Option (Int × Mem) :=
  if (μ 1 43) = 8 then
  some ((-3), μ)
  else
    (aput μ 1 60 (w32 (44 + (μ 1 43))) a1).bind fun μ1 =>
    bnd (mst μ1 1 43 (w32 ((μ1 1 43) + 1))) fun μ2 =>
    some ((μ2 1 43), μ2)
noncomputable def mm_drops_69 (μ : Mem) : Option (Int × Mem) :=
  (aput μ 1 60 (w32 (35 + (μ 1 34))) 0).bind fun μ3 =>
  some (0, μ3)
noncomputable def mm_drops_32 : Nat → Int → Mem → Option (Int × Mem)
  | 0, _, _ => none
  | n + 1, x2, μ =>
  if (μ 1 34) ≤ x2 then
    mm_drops_69 μ
  else
  (aget μ 1 60 (w32 ((w32 (35 + x2)) + 1))).bind fun v4 =>
  (aput μ 1 60 (w32 (35 + x2)) v4).bind fun μ5 =>
  bnd (w32 (x2 + 1)) fun v6 =>
  mm_drops_32 n v6 μ5
noncomputable def mm_drops (a1 : Int) (μ : Mem) : Option (Int × Mem) :=
  (mm_in a1 0 (w32 ((μ 1 34) - 1))).bind fun v1 =>
  if v1 = 0 then
  some ((-1), μ)
  else
    bnd (mst μ 1 34 (w32 ((μ 1 34) - 1))) fun μ2 =>
    mm_drops_32 FU a1 μ2
noncomputable def mm_number_81 (x1 : Int) (μ : Mem) : Option (Int × Mem) :=
  some (x1, μ)
noncomputable def mm_number_12 : Nat → Int → Mem → Option (Int × Mem)
  | 0, _, _ => none
  | n + 1, x1, μ =>
  if x1 ≤ 0 then
    mm_number_81 x1 μ
  else
  (mm_isNext 48 57 μ).bind fun v3 =>
  if v3 = 0 then
    mm_number_81 x1 μ
  else
  (aget μ 5 60 (μ 0 14)).bind fun v4 =>
  if 200 ≤ (w32 ((w32 ((w32 (10 * x1)) + v4)) - 48)) then
    mm_number_81 x1 μ
  else
  (aget μ 5 60 (μ 0 14)).bind fun v5 =>
  bnd (w32 ((w32 ((w32 (10 * x1)) + v5)) - 48)) fun v6 =>
  bnd (mst μ 0 14 (w32 ((μ 0 14) + 1))) fun μ7 =>
  mm_number_12 n v6 μ7
noncomputable def mm_number (μ : Mem) : Option (Int × Mem) :=
  (mm_sign 48 57 μ).bind fun p1 =>
  bnd (w32 (p1.1 - 48)) fun v2 =>
  mm_number_12 FU v2 p1.2
noncomputable def mm_numberOf (a1 : Int) (μ : Mem) : Option Int :=
  (aget μ 1 60 (w32 (9 + (w32 (2 * a1))))).bind fun v1 =>
  some (v1)
noncomputable def mm_find_30 (μ : Mem) : Option Int :=
  some ((-5))
noncomputable def mm_find_22 (x2 : Int) (μ : Mem) : Option Int :=
  some (x2)
noncomputable def mm_find_2 : Nat → Int → Int → Mem → Option Int
  | 0, _, _, _ => none
  | n + 1, x1, x2, μ =>
  if (μ 1 8) ≤ x2 then
    mm_find_30 μ
  else
  (mm_numberOf x2 μ).bind fun v1 =>
  if v1 = x1 then
  mm_find_22 x2 μ
  else
    bnd (w32 (x2 + 1)) fun v2 =>
    mm_find_2 n x1 v2 μ
noncomputable def mm_find (a1 : Int) (μ : Mem) : Option Int :=
  mm_find_2 FU a1 0 μ
noncomputable def mm_pours_26 (μ : Mem) : Option (Int × Mem) :=
  some ((-1), μ)
noncomputable def mm_pours (a1 : Int) (a2 : Int) (μ : Mem) : Option (Int × Mem) :=
  (mm_find a1 μ).bind fun v1 =>
  (mm_find a2 μ).bind fun v2 =>
  if v1 = (-5) then
    mm_pours_26 μ
  else
  if v2 = (-5) then
  mm_pours_26 μ
  else
    if v1 = v2 then
    some ((-2), μ)
    else
      (mm_mixIn v1 μ).bind fun v3 =>
      if v3 = 0 then
      some ((-5), μ)
      else
        (mm_mixIn v1 μ).bind fun v4 =>
        (mm_mixIn v2 μ).bind fun v5 =>
        (mm_mixed v4 v5).bind fun v6 =>
        (mm_mixIn v1 μ).bind fun v7 =>
        (mm_units v7).bind fun v8 =>
        (mm_mixIn v2 μ).bind fun v9 =>
        (mm_units v9).bind fun v10 =>
        (mm_units v6).bind fun v11 =>
        bnd (w32 ((w32 (v8 + v10)) - v11)) fun v12 =>
        (aput μ 1 60 (w32 ((w32 (9 + (w32 (2 * v1)))) + 1)) 0).bind fun μ13 =>
        (aput μ13 1 60 (w32 ((w32 (9 + (w32 (2 * v2)))) + 1)) v6).bind fun μ14 =>
        bnd (mst μ14 1 53 (w32 ((μ14 1 53) + v12))) fun μ15 =>
        some (v12, μ15)
noncomputable def mm_priceOf_38 (x2 : Int) (μ : Mem) : Option Int :=
  some (x2)
noncomputable def mm_priceOf_7 : Nat → Int → Int → Int → Mem → Option Int
  | 0, _, _, _, _ => none
  | n + 1, x2, x3, x4, μ =>
  if 8 ≤ x4 then
    mm_priceOf_38 x2 μ
  else
  (aget μ 1 60 x4).bind fun v1 =>
  bnd (w32 (x2 + (w32 ((Int.tmod x3 3) * v1)))) fun v2 =>
  bnd (w32 (Int.tdiv x3 3)) fun v3 =>
  bnd (w32 (x4 + 1)) fun v4 =>
  mm_priceOf_7 n v2 v3 v4 μ
noncomputable def mm_priceOf (a1 : Int) (μ : Mem) : Option Int :=
  mm_priceOf_7 FU 0 a1 0 μ
noncomputable def mm_buysMore (a1 : Int) (μ : Mem) : Option (Int × Mem) :=
  (mm_find a1 μ).bind fun v1 =>
  if v1 = (-5) then
  some ((-1), μ)
  else
    (mm_mixIn v1 μ).bind fun v2 =>
    if v2 = 0 then
    some ((-5), μ)
    else
      (mm_mixed v2 v2).bind fun v3 =>
      (aput μ 1 60 (w32 ((w32 (9 + (w32 (2 * v1)))) + 1)) v3).bind fun μ4 =>
      (mm_units v2).bind fun v5 =>
      bnd (mst μ4 1 52 (w32 ((μ4 1 52) + v5))) fun μ6 =>
      (mm_priceOf v2 μ6).bind fun v7 =>
      bnd (mst μ6 1 56 (w32 ((μ6 1 56) + v7))) fun μ8 =>
      (mm_units v2).bind fun v9 =>
      (mm_units v3).bind fun v10 =>
      bnd (mst μ8 1 53 (w32 ((μ8 1 53) + (w32 ((w32 (2 * v9)) - v10))))) fun μ11 =>
      some (v3, μ11)
noncomputable def mm_order_316 (s0 : Int) (μ : Mem) : Option (Int × Mem) :=
  some (s0, μ)
noncomputable def mm_order_285 (s0 : Int) (μ : Mem) : Option (Int × Mem) :=
  some (s0, μ)
noncomputable def mm_order_217 (s0 : Int) (μ : Mem) : Option (Int × Mem) :=
  some (s0, μ)
noncomputable def mm_order_159 (s0 : Int) (μ : Mem) : Option (Int × Mem) :=
  some (s0, μ)
noncomputable def mm_order_108 (s0 : Int) (μ : Mem) : Option (Int × Mem) :=
  some (s0, μ)
noncomputable def mm_order_57 (s0 : Int) (μ : Mem) : Option (Int × Mem) :=
  some (s0, μ)
noncomputable def mm_order (a1 : Int) (μ : Mem) : Option (Int × Mem) :=
  (mm_isNext 106 106 μ).bind fun v1 =>
  if v1 = 0 then
    (mm_isNext 114 114 μ).bind fun v2 =>
    if v2 = 0 then
      (mm_isNext 119 119 μ).bind fun v3 =>
      if v3 = 0 then
        (mm_isNext 100 100 μ).bind fun v4 =>
        if v4 = 0 then
          (mm_isNext 112 112 μ).bind fun v5 =>
          if v5 = 0 then
            (mm_signs 109 111 114 101 μ).bind fun μ6 =>
            (mm_number μ6).bind fun p7 =>
            bnd (p7.1) fun v8 =>
            if a1 = 0 then
              mm_order_316 0 p7.2
            else
            (mm_buysMore v8 p7.2).bind fun p9 =>
            mm_order_316 p9.1 p9.2
          else
          bnd (mst μ 0 14 (w32 ((μ 0 14) + 1))) fun μ10 =>
          (mm_signs 111 117 114 0 μ10).bind fun μ11 =>
          (mm_number μ11).bind fun p12 =>
          bnd (p12.1) fun v13 =>
          (mm_sign 62 62 p12.2).bind fun p14 =>
          bnd (p14.1) fun v15 =>
          (mm_number p14.2).bind fun p16 =>
          bnd (p16.1) fun v17 =>
          if a1 = 0 then
            mm_order_285 0 p16.2
          else
          (mm_pours v13 v17 p16.2).bind fun p18 =>
          mm_order_285 p18.1 p18.2
        else
        bnd (mst μ 0 14 (w32 ((μ 0 14) + 1))) fun μ19 =>
        (mm_signs 114 111 112 0 μ19).bind fun μ20 =>
        (mm_sign 48 57 μ20).bind fun p21 =>
        bnd (w32 (p21.1 - 48)) fun v22 =>
        if a1 = 0 then
          mm_order_217 0 p21.2
        else
        (mm_drops v22 p21.2).bind fun p23 =>
        mm_order_217 p23.1 p23.2
      else
      bnd (mst μ 0 14 (w32 ((μ 0 14) + 1))) fun μ24 =>
      (mm_signs 97 110 116 0 μ24).bind fun μ25 =>
      (mm_mix μ25).bind fun p26 =>
      bnd (p26.1) fun v27 =>
      if a1 = 0 then
        mm_order_159 0 p26.2
      else
      (mm_wants v27 p26.2).bind fun p28 =>
      mm_order_159 p28.1 p28.2
    else
    bnd (mst μ 0 14 (w32 ((μ 0 14) + 1))) fun μ29 =>
    (mm_signs 117 108 101 0 μ29).bind fun μ30 =>
    (mm_mix μ30).bind fun p31 =>
    bnd (p31.1) fun v32 =>
    if a1 = 0 then
      mm_order_108 0 p31.2
    else
    (mm_rules v32 p31.2).bind fun p33 =>
    mm_order_108 p33.1 p33.2
  else
  bnd (mst μ 0 14 (w32 ((μ 0 14) + 1))) fun μ34 =>
  (mm_signs 97 114 0 0 μ34).bind fun μ35 =>
  (mm_mix μ35).bind fun p36 =>
  bnd (p36.1) fun v37 =>
  if a1 = 0 then
    mm_order_57 0 p36.2
  else
  (mm_comes v37 (p36.2 0 16) (p36.2 0 17) p36.2).bind fun p38 =>
  mm_order_57 p38.1 p38.2
noncomputable def mm_go_97 (x2 : Int) (μ : Mem) : Option (Int × Mem) :=
  some (x2, μ)
noncomputable def mm_go_94 (K14 : Int → Int → Int → Mem → Option (Int × Mem)) (x1 : Int) (x2 : Int) (x3 : Int) (μ : Mem) : Option (Int × Mem) :=
  K14 x1 x2 x3 μ
noncomputable def mm_go_93 (K14 : Int → Int → Int → Mem → Option (Int × Mem)) (x1 : Int) (x2 : Int) (s0 : Int) (μ : Mem) : Option (Int × Mem) :=
  mm_go_94 K14 x1 x2 s0 μ
noncomputable def mm_go_66 (K14 : Int → Int → Int → Mem → Option (Int × Mem)) (x1 : Int) (x2 : Int) (s0 : Int) (μ : Mem) : Option (Int × Mem) :=
  if s0 = 0 then
    mm_go_94 K14 x1 x2 s0 μ
  else
  (mm_sign 59 59 μ).bind fun p6 =>
  bnd (p6.1) fun v7 =>
  if (p6.2 0 15) = 0 then
  mm_go_93 K14 x1 x2 1 p6.2
  else
    mm_go_93 K14 x1 x2 0 p6.2
noncomputable def mm_go_65 (K14 : Int → Int → Int → Mem → Option (Int × Mem)) (x1 : Int) (x2 : Int) (μ : Mem) : Option (Int × Mem) :=
  mm_go_66 K14 x1 x2 0 μ
noncomputable def mm_go_40 (K14 : Int → Int → Int → Mem → Option (Int × Mem)) (x1 : Int) (x2 : Int) (μ : Mem) : Option (Int × Mem) :=
  bnd (w32 (x2 + 1)) fun v5 =>
  if (μ 0 15) = 0 then
  if (μ 0 7) ≤ (μ 0 14) then
    mm_go_65 K14 x1 v5 μ
  else
  mm_go_66 K14 x1 v5 1 μ
  else
    mm_go_65 K14 x1 v5 μ
noncomputable def mm_go_37 (x4 : Int) (μ : Mem) : Option (Int × Mem) :=
  some (x4, μ)
noncomputable def mm_go_14 : Nat → Int → Int → Int → Mem → Option (Int × Mem)
  | 0, _, _, _, _ => none
  | n + 1, x1, x2, x3, μ =>
  if x3 = 0 then
    mm_go_97 x2 μ
  else
  (mm_order x1 μ).bind fun p3 =>
  bnd (p3.1) fun v4 =>
  if 0 ≤ v4 then
    mm_go_40 (mm_go_14 n) x1 x2 p3.2
  else
  if v4 = (-5) then
    mm_go_40 (mm_go_14 n) x1 x2 p3.2
  else
  mm_go_37 v4 p3.2
noncomputable def mm_go (a1 : Int) (μ : Mem) : Option (Int × Mem) :=
  bnd (mst μ 0 14 0) fun μ1 =>
  bnd (mst μ1 0 15 0) fun μ2 =>
  mm_go_14 FU a1 0 1 μ2
noncomputable def mm_putAside_26 (μ : Mem) : Option Mem :=
  some μ
noncomputable def mm_putAside_2 : Nat → Int → Mem → Option Mem
  | 0, _, _ => none
  | n + 1, x1, μ =>
  if 60 ≤ x1 then
    mm_putAside_26 μ
  else
  (aget μ 1 60 x1).bind fun v1 =>
  (aput μ 2 60 x1 v1).bind fun μ2 =>
  bnd (w32 (x1 + 1)) fun v3 =>
  mm_putAside_2 n v3 μ2
noncomputable def mm_putAside (μ : Mem) : Option Mem :=
  mm_putAside_2 FU 0 μ
noncomputable def mm_act_119 (x1 : Int) (μ : Mem) : Option (Int × Mem) :=
  bnd (mst μ 0 3 (w32 ((μ 0 3) + 1))) fun μ2 =>
  some (x1, μ2)
noncomputable def mm_act_87 : Nat → Int → Int → Mem → Option (Int × Mem)
  | 0, _, _, _ => none
  | n + 1, x1, x2, μ =>
  if 60 ≤ x2 then
    mm_act_119 x1 μ
  else
  (aget μ 2 60 x2).bind fun v3 =>
  (aput μ 3 240 (w32 ((w32 (60 * (μ 0 3))) + x2)) v3).bind fun μ4 =>
  bnd (w32 (x2 + 1)) fun v5 =>
  mm_act_87 n x1 v5 μ4
noncomputable def mm_act_85 (x1 : Int) (μ : Mem) : Option (Int × Mem) :=
  mm_act_87 FU x1 0 μ
noncomputable def mm_act_75 (x1 : Int) (μ : Mem) : Option (Int × Mem) :=
  bnd (mst μ 0 3 (w32 ((μ 0 3) - 1))) fun μ6 =>
  mm_act_85 x1 μ6
noncomputable def mm_act_47 : Nat → Int → Int → Mem → Option (Int × Mem)
  | 0, _, _, _ => none
  | n + 1, x1, x2, μ =>
  if 180 ≤ x2 then
    mm_act_75 x1 μ
  else
  (aget μ 3 240 (w32 (60 + x2))).bind fun v7 =>
  (aput μ 3 240 x2 v7).bind fun μ8 =>
  bnd (w32 (x2 + 1)) fun v9 =>
  mm_act_47 n x1 v9 μ8
noncomputable def mm_act_35 (x1 : Int) (μ : Mem) : Option (Int × Mem) :=
  some (x1, μ)
noncomputable def mm_act_11 : Nat → Int → Int → Mem → Option (Int × Mem)
  | 0, _, _, _ => none
  | n + 1, x1, x2, μ =>
  if 60 ≤ x2 then
    mm_act_35 x1 μ
  else
  (aget μ 2 60 x2).bind fun v10 =>
  (aput μ 1 60 x2 v10).bind fun μ11 =>
  bnd (w32 (x2 + 1)) fun v12 =>
  mm_act_11 n x1 v12 μ11
noncomputable def mm_act (a1 : Int) (μ : Mem) : Option (Int × Mem) :=
  bnd (mst μ 0 8 0) fun μ1 =>
  if 0 ≤ a1 then
    if (μ1 0 3) = 4 then
    mm_act_47 FU a1 0 μ1
    else
      mm_act_85 a1 μ1
  else
  mm_act_11 FU a1 0 μ1
noncomputable def mm_doAll (μ : Mem) : Option (Int × Mem) :=
  (mm_go 0 μ).bind fun p1 =>
  bnd (p1.1) fun v2 =>
  if (p1.2 0 15) = 0 then
    (mm_putAside p1.2).bind fun μ3 =>
    (mm_go 1 μ3).bind fun p4 =>
    (mm_act p4.1 p4.2).bind fun p5 =>
    some (p5.1, p5.2)
  else
  some (w32 ((-100) - (p1.2 0 14)), p1.2)
noncomputable def mm_drop_24 (s0 : Int) (μ : Mem) : Option (Int × Mem) :=
  some (s0, μ)
noncomputable def mm_drop (a1 : Int) (μ : Mem) : Option (Int × Mem) :=
  (mm_putAside μ).bind fun μ1 =>
  (mm_drops a1 μ1).bind fun p2 =>
  (mm_act p2.1 p2.2).bind fun p3 =>
  if 0 ≤ p3.1 then
    (mm_strength p3.2).bind fun p4 =>
    mm_drop_24 p4.1 p4.2
  else
  mm_drop_24 (-1) p3.2
noncomputable def mm_fault_22 (s0 : Int) (μ : Mem) : Option (Int × Mem) :=
  some (s0, μ)
noncomputable def mm_fault (μ : Mem) : Option (Int × Mem) :=
  (mm_go 0 μ).bind fun p1 =>
  bnd (p1.1) fun v2 =>
  if (p1.2 0 15) = 0 then
    mm_fault_22 (-5) p1.2
  else
  mm_fault_22 (p1.2 0 14) p1.2
noncomputable def mm_laySums_60 (x1 : Int) (μ : Mem) : Option (Int × Mem) :=
  some (x1, μ)
noncomputable def mm_laySums_50 (K4 : Int → Int → Mem → Option (Int × Mem)) (x1 : Int) (x2 : Int) (μ : Mem) : Option (Int × Mem) :=
  bnd (w32 (2 * x1)) fun v1 =>
  bnd (w32 (x2 + 1)) fun v2 =>
  K4 v1 v2 μ
noncomputable def mm_laySums_17 (K4 : Int → Int → Mem → Option (Int × Mem)) : Nat → Int → Int → Int → Mem → Option (Int × Mem)
  | 0, _, _, _, _ => none
  | n + 1, x1, x2, x3, μ =>
  if x1 ≤ x3 then
    mm_laySums_50 K4 x1 x2 μ
  else
  (aget μ 10 4096 x3).bind fun v3 =>
  (mm_mixIn x2 μ).bind fun v4 =>
  (mm_mixed v3 v4).bind fun v5 =>
  (aput μ 10 4096 (w32 (x1 + x3)) v5).bind fun μ6 =>
  bnd (w32 (x3 + 1)) fun v7 =>
  mm_laySums_17 K4 n x1 x2 v7 μ6
noncomputable def mm_laySums_4 : Nat → Int → Int → Mem → Option (Int × Mem)
  | 0, _, _, _ => none
  | n + 1, x1, x2, μ =>
  if (μ 1 8) ≤ x2 then
    mm_laySums_60 x1 μ
  else
  mm_laySums_17 (mm_laySums_4 n) FU x1 x2 0 μ
noncomputable def mm_laySums (μ : Mem) : Option (Int × Mem) :=
  mm_laySums_4 FU 1 0 μ
noncomputable def mm_size_21 (x1 : Int) : Option Int :=
  some (x1)
noncomputable def mm_size_4 : Nat → Int → Int → Option Int
  | 0, _, _ => none
  | n + 1, x1, x2 =>
  if x2 ≤ 0 then
    mm_size_21 x1
  else
  bnd (w32 (x1 + (Int.tmod x2 2))) fun v1 =>
  bnd (w32 (Int.tdiv x2 2)) fun v2 =>
  mm_size_4 n v1 v2
noncomputable def mm_size (a1 : Int) : Option Int :=
  mm_size_4 FU 0 a1
noncomputable def mm_fewest_16 (μ : Mem) : Option (Int × Mem) :=
  some ((-2), μ)
noncomputable def mm_fewest_134 (s0 : Int) (μ : Mem) : Option (Int × Mem) :=
  some (s0, μ)
noncomputable def mm_fewest_108 (x2 : Int) (x5 : Int) (μ : Mem) : Option (Int × Mem) :=
  if x5 = (-5) then
  mm_fewest_134 (-5) μ
  else
    if x2 = 0 then
    (mm_size x5).bind fun v7 =>
    mm_fewest_134 v7 μ
    else
      mm_fewest_134 x5 μ
noncomputable def mm_fewest_100 (K38 : Int → Int → Int → Int → Int → Mem → Option (Int × Mem)) (x2 : Int) (x3 : Int) (x4 : Int) (x6 : Int) (s0 : Int) (μ : Mem) : Option (Int × Mem) :=
  bnd (w32 (x6 + 1)) fun v10 =>
  K38 x2 x3 x4 s0 v10 μ
noncomputable def mm_fewest_86 (K38 : Int → Int → Int → Int → Int → Mem → Option (Int × Mem)) (x2 : Int) (x3 : Int) (x4 : Int) (x5 : Int) (x6 : Int) (s0 : Int) (μ : Mem) : Option (Int × Mem) :=
  if s0 = 0 then
    mm_fewest_100 K38 x2 x3 x4 x6 x5 μ
  else
  mm_fewest_100 K38 x2 x3 x4 x6 x6 μ
noncomputable def mm_fewest_85 (K38 : Int → Int → Int → Int → Int → Mem → Option (Int × Mem)) (x2 : Int) (x3 : Int) (x4 : Int) (x5 : Int) (x6 : Int) (μ : Mem) : Option (Int × Mem) :=
  mm_fewest_86 K38 x2 x3 x4 x5 x6 0 μ
noncomputable def mm_fewest_81 (K38 : Int → Int → Int → Int → Int → Mem → Option (Int × Mem)) (x2 : Int) (x3 : Int) (x4 : Int) (x5 : Int) (x6 : Int) (μ : Mem) : Option (Int × Mem) :=
  mm_fewest_86 K38 x2 x3 x4 x5 x6 1 μ
noncomputable def mm_fewest_38 : Nat → Int → Int → Int → Int → Int → Mem → Option (Int × Mem)
  | 0, _, _, _, _, _, _ => none
  | n + 1, x2, x3, x4, x5, x6, μ =>
  if x4 ≤ x6 then
    mm_fewest_108 x2 x5 μ
  else
  (aget μ 10 4096 x6).bind fun v8 =>
  (aget μ 7 6561 v8).bind fun v9 =>
  if v9 = x3 then
  if x5 = (-5) then
    mm_fewest_81 (mm_fewest_38 n) x2 x3 x4 x5 x6 μ
  else
  (mm_size x6).bind fun v11 =>
  (mm_size x5).bind fun v12 =>
  if v12 ≤ v11 then
    mm_fewest_85 (mm_fewest_38 n) x2 x3 x4 x5 x6 μ
  else
  mm_fewest_81 (mm_fewest_38 n) x2 x3 x4 x5 x6 μ
  else
    mm_fewest_85 (mm_fewest_38 n) x2 x3 x4 x5 x6 μ
noncomputable def mm_fewest (a1 : Int) (a2 : Int) (μ : Mem) : Option (Int × Mem) :=
  (mm_isMix a1).bind fun v1 =>
  if v1 = 0 then
    mm_fewest_16 μ
  else
  (mm_in a2 0 1).bind fun v2 =>
  if v2 = 0 then
  mm_fewest_16 μ
  else
    (mm_taste a1 μ).bind fun p3 =>
    bnd (p3.1) fun v4 =>
    (mm_laySums p3.2).bind fun p5 =>
    bnd (p5.1) fun v6 =>
    mm_fewest_38 FU a2 v4 v6 (-5) 0 p5.2
noncomputable def mm_ifPoured_26 (μ : Mem) : Option (Int × Mem) :=
  some ((-1), μ)
noncomputable def mm_ifPoured_57 (s0 : Int) (μ : Mem) : Option (Int × Mem) :=
  some (s0, μ)
noncomputable def mm_ifPoured (a1 : Int) (a2 : Int) (μ : Mem) : Option (Int × Mem) :=
  (mm_find a1 μ).bind fun v1 =>
  (mm_find a2 μ).bind fun v2 =>
  if v1 = (-5) then
    mm_ifPoured_26 μ
  else
  if v2 = (-5) then
  mm_ifPoured_26 μ
  else
    if v1 = v2 then
    mm_ifPoured_57 (-2) μ
    else
      (mm_mixIn v1 μ).bind fun v3 =>
      (mm_mixIn v2 μ).bind fun v4 =>
      (mm_mixed v3 v4).bind fun v5 =>
      (mm_taste v5 μ).bind fun p6 =>
      mm_ifPoured_57 p6.1 p6.2
noncomputable def mm_jar (a1 : Int) (μ : Mem) : Option (Int × Mem) :=
  (mm_isMix a1).bind fun v1 =>
  if v1 = 0 then
  some ((-2), μ)
  else
    (mm_putAside μ).bind fun μ2 =>
    (mm_units a1).bind fun v3 =>
    (mm_priceOf a1 μ2).bind fun v4 =>
    (mm_comes a1 v3 v4 μ2).bind fun p5 =>
    (mm_act p5.1 p5.2).bind fun p6 =>
    some (p6.1, p6.2)
noncomputable def mm_cheapest_67 (x3 : Int) (μ : Mem) : Option (Int × Mem) :=
  some (x3, μ)
noncomputable def mm_cheapest_61 (K20 : Int → Int → Int → Int → Mem → Option (Int × Mem)) (x2 : Int) (x3 : Int) (x4 : Int) (x5 : Int) (μ : Mem) : Option (Int × Mem) :=
  bnd (w32 (x5 + 1)) fun v6 =>
  K20 x2 x3 x4 v6 μ
noncomputable def mm_cheapest_20 : Nat → Int → Int → Int → Int → Mem → Option (Int × Mem)
  | 0, _, _, _, _, _ => none
  | n + 1, x2, x3, x4, x5, μ =>
  if 6561 ≤ x5 then
    mm_cheapest_67 x3 μ
  else
  (aget μ 7 6561 x5).bind fun v5 =>
  if v5 = x2 then
  (mm_priceOf x5 μ).bind fun v7 =>
  if x4 ≤ v7 then
    mm_cheapest_61 (mm_cheapest_20 n) x2 x3 x4 x5 μ
  else
  (mm_priceOf x5 μ).bind fun v8 =>
  mm_cheapest_61 (mm_cheapest_20 n) x2 x5 v8 x5 μ
  else
    mm_cheapest_61 (mm_cheapest_20 n) x2 x3 x4 x5 μ
noncomputable def mm_cheapest (a1 : Int) (μ : Mem) : Option (Int × Mem) :=
  (mm_taste a1 μ).bind fun p1 =>
  bnd (p1.1) fun v2 =>
  (mm_priceOf v2 p1.2).bind fun v3 =>
  bnd (w32 (v2 + 1)) fun v4 =>
  mm_cheapest_20 FU v2 v2 v3 v4 p1.2
noncomputable def mm_told_62 (s0 : Int) (μ : Mem) : Option (Int × Mem) :=
  some (s0, μ)
noncomputable def mm_told (a1 : Int) (a2 : Int) (μ : Mem) : Option (Int × Mem) :=
  if a2 = 0 then
    (mm_units a1).bind fun v1 =>
    some (v1, μ)
  else
  if a2 = 1 then
    (mm_priceOf a1 μ).bind fun v2 =>
    some (v2, μ)
  else
  if a2 = 2 then
    (mm_taste a1 μ).bind fun p3 =>
    some (p3.1, p3.2)
  else
  if a2 = 3 then
    (mm_taste a1 μ).bind fun p4 =>
    if p4.1 = 0 then
    mm_told_62 1 p4.2
    else
      mm_told_62 0 p4.2
  else
  (mm_cheapest a1 μ).bind fun p5 =>
  some (p5.1, p5.2)
noncomputable def mm_jarOf_71 (s0 : Int) (μ : Mem) : Option (Int × Mem) :=
  some (s0, μ)
noncomputable def mm_jarOf (a1 : Int) (a2 : Int) (μ : Mem) : Option (Int × Mem) :=
  (mm_find a1 μ).bind fun v1 =>
  if v1 = (-5) then
  some ((-1), μ)
  else
    (mm_in a2 0 6).bind fun v2 =>
    if v2 = 0 then
    some ((-2), μ)
    else
      (mm_mixIn v1 μ).bind fun v3 =>
      if a2 = 0 then
      mm_jarOf_71 v3 μ
      else
        if a2 = 6 then
        (mm_cheapest v3 μ).bind fun p5 =>
        (mm_priceOf p5.1 p5.2).bind fun v6 =>
        mm_jarOf_71 v6 p5.2
        else
          (mm_told v3 (w32 (a2 - 1)) μ).bind fun p4 =>
          mm_jarOf_71 p4.1 p4.2
noncomputable def mm_keep_26 (μ : Mem) : Option (Int × Mem) :=
  bnd (mst μ 0 5 1) fun μ1 =>
  some ((μ1 1 8), μ1)
noncomputable def mm_keep_2 : Nat → Int → Mem → Option (Int × Mem)
  | 0, _, _ => none
  | n + 1, x1, μ =>
  if 60 ≤ x1 then
    mm_keep_26 μ
  else
  (aget μ 1 60 x1).bind fun v2 =>
  (aput μ 4 60 x1 v2).bind fun μ3 =>
  bnd (w32 (x1 + 1)) fun v4 =>
  mm_keep_2 n v4 μ3
noncomputable def mm_keep (μ : Mem) : Option (Int × Mem) :=
  mm_keep_2 FU 0 μ
noncomputable def mm_makes_85 (x2 : Int) (μ : Mem) : Option (Int × Mem) :=
  some (x2, μ)
noncomputable def mm_makes_69 (K35 : Int → Int → Int → Mem → Option (Int × Mem)) (x1 : Int) (x3 : Int) (x4 : Int) (s0 : Int) (s1 : Int) (μ : Mem) : Option (Int × Mem) :=
  bnd (w32 (s0 + s1)) fun v7 =>
  (aput μ 9 6561 x4 (nzz 1)).bind fun μ8 =>
  bnd (w32 (x3 + 1)) fun v9 =>
  K35 x1 v7 v9 μ8
noncomputable def mm_makes_35 : Nat → Int → Int → Int → Mem → Option (Int × Mem)
  | 0, _, _, _, _ => none
  | n + 1, x1, x2, x3, μ =>
  if x1 ≤ x3 then
    mm_makes_85 x2 μ
  else
  (aget μ 10 4096 x3).bind fun v4 =>
  (aget μ 7 6561 v4).bind fun v5 =>
  (aget μ 9 6561 v5).bind fun v6 =>
  if v6 = 0 then
    mm_makes_69 (mm_makes_35 n) x1 x3 v5 x2 1 μ
  else
  mm_makes_69 (mm_makes_35 n) x1 x3 v5 x2 0 μ
noncomputable def mm_makes_31 (x1 : Int) (μ : Mem) : Option (Int × Mem) :=
  mm_makes_35 FU x1 0 0 μ
noncomputable def mm_makes_11 : Nat → Int → Int → Mem → Option (Int × Mem)
  | 0, _, _, _ => none
  | n + 1, x1, x2, μ =>
  if 6561 ≤ x2 then
    mm_makes_31 x1 μ
  else
  (aput μ 9 6561 x2 (nzz 0)).bind fun μ10 =>
  bnd (w32 (x2 + 1)) fun v11 =>
  mm_makes_11 n x1 v11 μ10
noncomputable def mm_makes (μ : Mem) : Option (Int × Mem) :=
  (mm_lay μ).bind fun μ1 =>
  (mm_laySums μ1).bind fun p2 =>
  bnd (p2.1) fun v3 =>
  mm_makes_11 FU v3 0 p2.2
noncomputable def mm_jarsLike_46 (x2 : Int) (μ : Mem) : Option (Int × Mem) :=
  some (x2, μ)
noncomputable def mm_jarsLike_38 (K4 : Int → Int → Int → Mem → Option (Int × Mem)) (x1 : Int) (x3 : Int) (s0 : Int) (s1 : Int) (μ : Mem) : Option (Int × Mem) :=
  bnd (w32 (s0 + s1)) fun v4 =>
  bnd (w32 (x3 + 1)) fun v5 =>
  K4 x1 v4 v5 μ
noncomputable def mm_jarsLike_4 : Nat → Int → Int → Int → Mem → Option (Int × Mem)
  | 0, _, _, _, _ => none
  | n + 1, x1, x2, x3, μ =>
  if (μ 1 8) ≤ x3 then
    mm_jarsLike_46 x2 μ
  else
  (mm_mixIn x3 μ).bind fun v1 =>
  (mm_taste v1 μ).bind fun p2 =>
  (mm_taste x1 p2.2).bind fun p3 =>
  if p2.1 = p3.1 then
  mm_jarsLike_38 (mm_jarsLike_4 n) x1 x3 x2 1 p3.2
  else
    mm_jarsLike_38 (mm_jarsLike_4 n) x1 x3 x2 0 p3.2
noncomputable def mm_jarsLike (a1 : Int) (μ : Mem) : Option (Int × Mem) :=
  mm_jarsLike_4 FU a1 0 0 μ
noncomputable def mm_mixOf_17 (μ : Mem) : Option (Int × Mem) :=
  some ((-2), μ)
noncomputable def mm_mixOf_53 (s0 : Int) (μ : Mem) : Option (Int × Mem) :=
  some (s0, μ)
noncomputable def mm_mixOf (a1 : Int) (a2 : Int) (μ : Mem) : Option (Int × Mem) :=
  (mm_isMix a1).bind fun v1 =>
  if v1 = 0 then
    mm_mixOf_17 μ
  else
  (mm_in a2 0 6).bind fun v2 =>
  if v2 = 0 then
  mm_mixOf_17 μ
  else
    if a2 = 5 then
    (mm_mixed a1 a1).bind fun v5 =>
    mm_mixOf_53 v5 μ
    else
      if a2 = 6 then
      (mm_jarsLike a1 μ).bind fun p4 =>
      mm_mixOf_53 p4.1 p4.2
      else
        (mm_told a1 a2 μ).bind fun p3 =>
        mm_mixOf_53 p3.1 p3.2
noncomputable def mm_more (a1 : Int) (μ : Mem) : Option (Int × Mem) :=
  (mm_putAside μ).bind fun μ1 =>
  (mm_buysMore a1 μ1).bind fun p2 =>
  (mm_act p2.1 p2.2).bind fun p3 =>
  some (p3.1, p3.2)
noncomputable def mm_needless_49 (x2 : Int) (μ : Mem) : Option (Int × Mem) :=
  bnd (mst μ 0 8 0) fun μ3 =>
  some (x2, μ3)
noncomputable def mm_needless_42 (K10 : Int → Int → Int → Mem → Option (Int × Mem)) (x1 : Int) (x3 : Int) (s0 : Int) (μ : Mem) : Option (Int × Mem) :=
  bnd (w32 (x3 + 1)) fun v5 =>
  K10 x1 s0 v5 μ
noncomputable def mm_needless_10 : Nat → Int → Int → Int → Mem → Option (Int × Mem)
  | 0, _, _, _, _ => none
  | n + 1, x1, x2, x3, μ =>
  if (μ 1 34) ≤ x3 then
    mm_needless_49 x2 μ
  else
  if x2 = (-5) then
  (mm_layBland x3 μ).bind fun p4 =>
  if p4.1 = x1 then
  mm_needless_42 (mm_needless_10 n) x1 x3 x3 p4.2
  else
    mm_needless_42 (mm_needless_10 n) x1 x3 (-5) p4.2
  else
    mm_needless_49 x2 μ
noncomputable def mm_needless (μ : Mem) : Option (Int × Mem) :=
  (mm_strength μ).bind fun p1 =>
  bnd (p1.1) fun v2 =>
  mm_needless_10 FU v2 (-5) 0 p1.2
noncomputable def mm_pour (a1 : Int) (a2 : Int) (μ : Mem) : Option (Int × Mem) :=
  (mm_putAside μ).bind fun μ1 =>
  (mm_pours a1 a2 μ1).bind fun p2 =>
  (mm_act p2.1 p2.2).bind fun p3 =>
  some (p3.1, p3.2)
noncomputable def mm_price (a1 : Int) (a2 : Int) (μ : Mem) : Option (Int × Mem) :=
  (mm_in a1 0 7).bind fun v1 =>
  if v1 = 0 then
  some ((-1), μ)
  else
    (mm_in a2 0 99).bind fun v2 =>
    if v2 = 0 then
    some ((-2), μ)
    else
      (aget μ 1 60 a1).bind fun v3 =>
      if v3 = a2 then
      some ((-5), μ)
      else
        (mm_putAside μ).bind fun μ4 =>
        (aput μ4 1 60 a1 a2).bind fun μ5 =>
        (mm_act v3 μ5).bind fun p6 =>
        some (p6.1, p6.2)
noncomputable def mm_ranked_30 (s0 : Int) (μ : Mem) : Option Int :=
  some (s0)
noncomputable def mm_ranked (a1 : Int) (μ : Mem) : Option Int :=
  if 0 ≤ a1 then
    if (μ 1 8) ≤ a1 then
      mm_ranked_30 (-5) μ
    else
    (mm_numberOf a1 μ).bind fun v1 =>
    mm_ranked_30 v1 μ
  else
  mm_ranked_30 (-2) μ
noncomputable def mm_restore_40 (μ : Mem) : Option (Int × Mem) :=
  (mm_act (μ 1 8) μ).bind fun p2 =>
  some (p2.1, p2.2)
noncomputable def mm_restore_16 : Nat → Int → Mem → Option (Int × Mem)
  | 0, _, _ => none
  | n + 1, x1, μ =>
  if 60 ≤ x1 then
    mm_restore_40 μ
  else
  (aget μ 4 60 x1).bind fun v3 =>
  (aput μ 1 60 x1 v3).bind fun μ4 =>
  bnd (w32 (x1 + 1)) fun v5 =>
  mm_restore_16 n v5 μ4
noncomputable def mm_restore (μ : Mem) : Option (Int × Mem) :=
  if (μ 0 5) = 0 then
  some ((-5), μ)
  else
    (mm_putAside μ).bind fun μ1 =>
    mm_restore_16 FU 0 μ1
noncomputable def mm_rule_35 (s0 : Int) (μ : Mem) : Option (Int × Mem) :=
  some (s0, μ)
noncomputable def mm_rule (a1 : Int) (μ : Mem) : Option (Int × Mem) :=
  (mm_isMix a1).bind fun v1 =>
  if v1 = 0 then
  some ((-2), μ)
  else
    (mm_putAside μ).bind fun μ2 =>
    (mm_rules a1 μ2).bind fun p3 =>
    (mm_act p3.1 p3.2).bind fun p4 =>
    if 0 ≤ p4.1 then
      (mm_strength p4.2).bind fun p5 =>
      mm_rule_35 p5.1 p5.2
    else
    mm_rule_35 (-3) p4.2
noncomputable def mm_ruleOf_30 (s0 : Int) (μ : Mem) : Option Int :=
  some (s0)
noncomputable def mm_ruleOf (a1 : Int) (μ : Mem) : Option Int :=
  (mm_in a1 0 (w32 ((μ 1 34) - 1))).bind fun v1 =>
  if v1 = 0 then
    mm_ruleOf_30 (-1) μ
  else
  (aget μ 1 60 (w32 (35 + a1))).bind fun v2 =>
  mm_ruleOf_30 v2 μ
noncomputable def mm_dropJar_54 (μ : Mem) : Option Mem :=
  (aput μ 1 60 (w32 (9 + (w32 (2 * (μ 1 8))))) 0).bind fun μ3 =>
  (aput μ3 1 60 (w32 ((w32 (9 + (w32 (2 * (μ3 1 8))))) + 1)) 0).bind fun μ4 =>
  some μ4
noncomputable def mm_dropJar_18 : Nat → Int → Mem → Option Mem
  | 0, _, _ => none
  | n + 1, x2, μ =>
  if (w32 (9 + (w32 (2 * (μ 1 8))))) ≤ x2 then
    mm_dropJar_54 μ
  else
  (aget μ 1 60 (w32 (x2 + 2))).bind fun v5 =>
  (aput μ 1 60 x2 v5).bind fun μ6 =>
  bnd (w32 (x2 + 1)) fun v7 =>
  mm_dropJar_18 n v7 μ6
noncomputable def mm_dropJar (a1 : Int) (μ : Mem) : Option Mem :=
  bnd (mst μ 1 8 (w32 ((μ 1 8) - 1))) fun μ1 =>
  bnd (w32 (9 + (w32 (2 * a1)))) fun v2 =>
  mm_dropJar_18 FU v2 μ1
noncomputable def mm_serves_185 (μ : Mem) : Option (Int × Mem) :=
  bnd (mst μ 1 59 (w32 ((μ 1 59) + 1))) fun μ5 =>
  some (0, μ5)
noncomputable def mm_serves_119 (x2 : Int) (x3 : Int) (μ : Mem) : Option (Int × Mem) :=
  (mm_priceOf x3 μ).bind fun v9 =>
  (mm_priceOf x3 μ).bind fun v10 =>
  bnd (w32 (v9 + (w32 (Int.tdiv v10 2)))) fun v11 =>
  (mm_units x3).bind fun v12 =>
  bnd (mst μ 1 54 (w32 ((μ 1 54) + v12))) fun μ13 =>
  bnd (mst μ13 1 57 (w32 ((μ13 1 57) + v11))) fun μ14 =>
  bnd (mst μ14 1 58 (w32 ((μ14 1 58) + 1))) fun μ15 =>
  (mm_dropJar x2 μ15).bind fun μ16 =>
  some (v11, μ16)
noncomputable def mm_serves_93 : Nat → Int → Int → Mem → Option (Int × Mem)
  | 0, _, _, _ => none
  | n + 1, x1, x2, μ =>
  if (μ 1 8) ≤ x2 then
    mm_serves_185 μ
  else
  (mm_mixIn x2 μ).bind fun v6 =>
  (mm_taste v6 μ).bind fun p7 =>
  if p7.1 = x1 then
  mm_serves_119 x2 v6 p7.2
  else
    bnd (w32 (x2 + 1)) fun v8 =>
    mm_serves_93 n x1 v8 p7.2
noncomputable def mm_serves_75 (x1 : Int) (μ : Mem) : Option (Int × Mem) :=
  (aput μ 1 60 (w32 (44 + (μ 1 43))) 0).bind fun μ4 =>
  mm_serves_93 FU x1 0 μ4
noncomputable def mm_serves_38 : Nat → Int → Int → Mem → Option (Int × Mem)
  | 0, _, _, _ => none
  | n + 1, x1, x2, μ =>
  if (μ 1 43) ≤ x2 then
    mm_serves_75 x1 μ
  else
  (aget μ 1 60 (w32 ((w32 (44 + x2)) + 1))).bind fun v17 =>
  (aput μ 1 60 (w32 (44 + x2)) v17).bind fun μ18 =>
  bnd (w32 (x2 + 1)) fun v19 =>
  mm_serves_38 n x1 v19 μ18
noncomputable def mm_serves (μ : Mem) : Option (Int × Mem) :=
  if (μ 1 43) = 0 then
  some ((-5), μ)
  else
    (mm_taste (μ 1 44) μ).bind fun p1 =>
    bnd (p1.1) fun v2 =>
    bnd (mst p1.2 1 43 (w32 ((p1.2 1 43) - 1))) fun μ3 =>
    mm_serves_38 FU v2 0 μ3
noncomputable def mm_serve (μ : Mem) : Option (Int × Mem) :=
  (mm_lay μ).bind fun μ1 =>
  (mm_putAside μ1).bind fun μ2 =>
  (mm_serves μ2).bind fun p3 =>
  (mm_act p3.1 p3.2).bind fun p4 =>
  some (p4.1, p4.2)
noncomputable def mm_shelf_13 (μ : Mem) : Option (Int × Mem) :=
  some ((-2), μ)
noncomputable def mm_shelf_197 (s0 : Int) (μ : Mem) : Option (Int × Mem) :=
  some (s0, μ)
noncomputable def mm_shelf_156 (x2 : Int) (x3 : Int) (x4 : Int) (x5 : Int) (μ : Mem) : Option (Int × Mem) :=
  if x2 = 0 then
  mm_shelf_197 x3 μ
  else
    if x2 = 1 then
    (mm_jarsLike x3 μ).bind fun p6 =>
    mm_shelf_197 p6.1 p6.2
    else
      if x2 = 2 then
      (mm_numberOf x4 μ).bind fun v5 =>
      mm_shelf_197 v5 μ
      else
        (mm_numberOf x5 μ).bind fun v4 =>
        mm_shelf_197 v4 μ
noncomputable def mm_shelf_150 (K69 : Int → Int → Int → Int → Int → Mem → Option (Int × Mem)) (x2 : Int) (x3 : Int) (x4 : Int) (x5 : Int) (x6 : Int) (μ : Mem) : Option (Int × Mem) :=
  bnd (w32 (x6 + 1)) fun v9 =>
  K69 x2 x3 x4 x5 v9 μ
noncomputable def mm_shelf_148 (K69 : Int → Int → Int → Int → Int → Mem → Option (Int × Mem)) (x2 : Int) (x3 : Int) (x4 : Int) (x6 : Int) (s0 : Int) (μ : Mem) : Option (Int × Mem) :=
  mm_shelf_150 K69 x2 x3 x4 s0 x6 μ
noncomputable def mm_shelf_141 (K69 : Int → Int → Int → Int → Int → Mem → Option (Int × Mem)) (x2 : Int) (x3 : Int) (x4 : Int) (x6 : Int) (μ : Mem) : Option (Int × Mem) :=
  mm_shelf_148 K69 x2 x3 x4 x6 x6 μ
noncomputable def mm_shelf_109 (K69 : Int → Int → Int → Int → Int → Mem → Option (Int × Mem)) (x2 : Int) (x3 : Int) (x5 : Int) (x6 : Int) (s0 : Int) (μ : Mem) : Option (Int × Mem) :=
  if x5 = (-5) then
    mm_shelf_141 K69 x2 x3 s0 x6 μ
  else
  (mm_mixIn x6 μ).bind fun v10 =>
  (mm_priceOf v10 μ).bind fun v11 =>
  (mm_mixIn x5 μ).bind fun v12 =>
  (mm_priceOf v12 μ).bind fun v13 =>
  if v13 ≤ v11 then
    mm_shelf_148 K69 x2 x3 s0 x6 x5 μ
  else
  mm_shelf_141 K69 x2 x3 s0 x6 μ
noncomputable def mm_shelf_69 : Nat → Int → Int → Int → Int → Int → Mem → Option (Int × Mem)
  | 0, _, _, _, _, _, _ => none
  | n + 1, x2, x3, x4, x5, x6, μ =>
  if (μ 1 8) ≤ x6 then
    mm_shelf_156 x2 x3 x4 x5 μ
  else
  (mm_mixIn x6 μ).bind fun v7 =>
  (mm_taste v7 μ).bind fun p8 =>
  if p8.1 = x3 then
  if x4 = (-5) then
  mm_shelf_109 (mm_shelf_69 n) x2 x3 x5 x6 x6 p8.2
  else
    mm_shelf_109 (mm_shelf_69 n) x2 x3 x5 x6 x4 p8.2
  else
    mm_shelf_150 (mm_shelf_69 n) x2 x3 x4 x5 x6 p8.2
noncomputable def mm_shelf_49 (x2 : Int) (x3 : Int) (μ : Mem) : Option (Int × Mem) :=
  if x3 = (-5) then
  some ((-5), μ)
  else
    mm_shelf_69 FU x2 x3 (-5) (-5) 0 μ
noncomputable def mm_shelf_25 : Nat → Int → Int → Int → Int → Mem → Option (Int × Mem)
  | 0, _, _, _, _, _ => none
  | n + 1, x1, x2, x3, x4, μ =>
  if x1 ≤ x4 then
    mm_shelf_49 x2 x3 μ
  else
  if x3 = (-5) then
    mm_shelf_49 x2 x3 μ
  else
  (mm_nextShelf x3 μ).bind fun p14 =>
  bnd (p14.1) fun v15 =>
  bnd (w32 (x4 + 1)) fun v16 =>
  mm_shelf_25 n x1 x2 v15 v16 p14.2
noncomputable def mm_shelf (a1 : Int) (a2 : Int) (μ : Mem) : Option (Int × Mem) :=
  if a1 < 0 then
    mm_shelf_13 μ
  else
  (mm_in a2 0 3).bind fun v1 =>
  if v1 = 0 then
  mm_shelf_13 μ
  else
    (mm_nextShelf (-1) μ).bind fun p2 =>
    bnd (p2.1) fun v3 =>
    mm_shelf_25 FU a1 a2 v3 0 p2.2
noncomputable def mm_throwAway (a1 : Int) (μ : Mem) : Option (Int × Mem) :=
  (mm_find a1 μ).bind fun v1 =>
  if v1 = (-5) then
  some ((-1), μ)
  else
    (mm_putAside μ).bind fun μ2 =>
    (mm_mixIn v1 μ2).bind fun v3 =>
    (mm_units v3).bind fun v4 =>
    bnd (mst μ2 1 55 (w32 ((μ2 1 55) + v4))) fun μ5 =>
    (mm_dropJar v1 μ5).bind fun μ6 =>
    (mm_act v4 μ6).bind fun p7 =>
    some (p7.1, p7.2)
noncomputable def mm_together_24 (s0 : Int) : Option Int :=
  some (s0)
noncomputable def mm_together_22 : Option Int :=
  mm_together_24 (-2)
noncomputable def mm_together (a1 : Int) (a2 : Int) : Option Int :=
  (mm_isMix a1).bind fun v1 =>
  if v1 = 0 then
    mm_together_22
  else
  (mm_isMix a2).bind fun v2 =>
  if v2 = 0 then
    mm_together_22
  else
  (mm_mixed a1 a2).bind fun v3 =>
  mm_together_24 v3
noncomputable def mm_type (a1 : Int) (μ : Mem) : Option (Int × Mem) :=
  if (μ 0 7) = 60 then
  some ((-3), μ)
  else
    (aput μ 5 60 (μ 0 7) a1).bind fun μ1 =>
    bnd (mst μ1 0 7 (w32 ((μ1 0 7) + 1))) fun μ2 =>
    some ((μ2 0 7), μ2)
noncomputable def mm_undo_59 (μ : Mem) : Option (Int × Mem) :=
  some ((μ 0 3), μ)
noncomputable def mm_undo_27 : Nat → Int → Mem → Option (Int × Mem)
  | 0, _, _ => none
  | n + 1, x1, μ =>
  if 60 ≤ x1 then
    mm_undo_59 μ
  else
  (aget μ 3 240 (w32 ((w32 (60 * (μ 0 3))) + x1))).bind fun v3 =>
  (aput μ 1 60 x1 v3).bind fun μ4 =>
  bnd (w32 (x1 + 1)) fun v5 =>
  mm_undo_27 n v5 μ4
noncomputable def mm_undo (μ : Mem) : Option (Int × Mem) :=
  if (μ 0 3) = 0 then
  some ((-5), μ)
  else
    bnd (mst μ 0 3 (w32 ((μ 0 3) - 1))) fun μ1 =>
    bnd (mst μ1 0 8 0) fun μ2 =>
    mm_undo_27 FU 0 μ2
noncomputable def mm_waiting_34 (s0 : Int) (μ : Mem) : Option Int :=
  some (s0)
noncomputable def mm_waiting (a1 : Int) (μ : Mem) : Option Int :=
  if 0 ≤ a1 then
    if (μ 1 43) ≤ a1 then
      mm_waiting_34 (-5) μ
    else
    (aget μ 1 60 (w32 (44 + a1))).bind fun v1 =>
    mm_waiting_34 v1 μ
  else
  mm_waiting_34 (-2) μ
noncomputable def mm_want (a1 : Int) (μ : Mem) : Option (Int × Mem) :=
  (mm_isMix a1).bind fun v1 =>
  if v1 = 0 then
  some ((-2), μ)
  else
    (mm_putAside μ).bind fun μ2 =>
    (mm_wants a1 μ2).bind fun p3 =>
    (mm_act p3.1 p3.2).bind fun p4 =>
    some (p4.1, p4.2)
