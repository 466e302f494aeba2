noncomputable def xx_isMix_16 (s0 : Int) : Option Int :=
  if s0 = 0 ∨ s0 = 1 then
  some (s0)
  else none
noncomputable def xx_isMix_15 : Option Int :=
  xx_isMix_16 0
noncomputable def xx_isMix (a1 : Int) : Option Int :=
  if a1 < 0 then
    xx_isMix_15
  else
  if 6561 ≤ a1 then
    xx_isMix_15
  else
  xx_isMix_16 1
noncomputable def xt_isLearned_46 (μ : Mem) : Option Int :=
  some (1)
noncomputable def xt_isLearned_38 (μ : Mem) : Option Int :=
  some (0)
noncomputable def xt_isLearned_15 : Nat → Int → Mem → Option Int
  | 0, _, _ => none
  | n + 1, x2, μ =>
  if (μ 3 2) ≤ x2 then
    xt_isLearned_46 μ
  else
  (aget μ 13 8 x2).bind fun v1 =>
  (aget μ 4 8 x2).bind fun v2 =>
  if v1 = v2 then
    bnd (w32 (x2 + 1)) fun v3 =>
    xt_isLearned_15 n v3 μ
  else
  xt_isLearned_38 μ
noncomputable def xt_isLearned (μ : Mem) : Option Int :=
  if (μ 10 5) = (μ 3 2) then
    xt_isLearned_15 FU 0 μ
  else
  some (0)
noncomputable def jf_fill_20 (μ : Mem) : Option Mem :=
  some μ
noncomputable def jf_fill_5 : Nat → Int → Int → Int → Mem → Option Mem
  | 0, _, _, _, _ => none
  | n + 1, x1, x2, x3, μ =>
  if x3 ≤ x2 then
    jf_fill_20 μ
  else
  (aput μ 5 8 x2 x1).bind fun μ1 =>
  bnd (w32 (x2 + 1)) fun v2 =>
  jf_fill_5 n x1 v2 x3 μ1
noncomputable def jf_fill (a1 : Int) (μ : Mem) : Option Mem :=
  jf_fill_5 FU a1 0 8 μ
noncomputable def xt_highestSpice_22 (x1 : Int) : Option Int :=
  some (x1)
noncomputable def xt_highestSpice_3 : Nat → Int → Int → Option Int
  | 0, _, _ => none
  | n + 1, x0, x1 =>
  if x1 ≤ 0 then
    xt_highestSpice_22 x1
  else
  (pget x1).bind fun v1 =>
  if v1 ≤ x0 then
    xt_highestSpice_22 x1
  else
  bnd (w32 (x1 + (-1))) fun v2 =>
  xt_highestSpice_3 n x0 v2
noncomputable def xt_highestSpice (a1 : Int) : Option Int :=
  xt_highestSpice_3 FU a1 7
noncomputable def xj_join (a1 : Int) (a2 : Int) (μ : Mem) : Option Int :=
  (aget μ 2 6561 (w32 ((w32 ((w32 (Int.tdiv a1 81)) * 81)) + (w32 (Int.tdiv a2 81))))).bind fun v1 =>
  (aget μ 2 6561 (w32 ((w32 ((Int.tmod a1 81) * 81)) + (Int.tmod a2 81)))).bind fun v2 =>
  some (w32 ((w32 (v1 * 81)) + v2))
noncomputable def xj_twice (a1 : Int) (μ : Mem) : Option Int :=
  (xj_join a1 a1 μ).bind fun v1 =>
  some (v1)
noncomputable def xt_reduced_77 (x3 : Int) (μ : Mem) : Option Int :=
  some (x3)
noncomputable def xt_reduced_71 (K6 : Int → Int → Mem → Option Int) (x3 : Int) (x4 : Int) (μ : Mem) : Option Int :=
  bnd (w32 (x4 + (-1))) fun v3 =>
  K6 x3 v3 μ
noncomputable def xt_reduced_52 (K6 : Int → Int → Mem → Option Int) (x3 : Int) (x4 : Int) (x5 : Int) (μ : Mem) : Option Int :=
  if x5 = 1 then
  (aget μ 5 8 x4).bind fun v4 =>
  (xj_join x3 v4 μ).bind fun v5 =>
  xt_reduced_71 K6 v5 x4 μ
  else
    xt_reduced_71 K6 x3 x4 μ
noncomputable def xt_reduced_32 (K6 : Int → Int → Mem → Option Int) (x3 : Int) (x4 : Int) (s0 : Int) (μ : Mem) : Option Int :=
  if s0 ≤ 0 then
    xt_reduced_52 K6 x3 x4 s0 μ
  else
  (aget μ 5 8 x4).bind fun v6 =>
  (xj_join x3 v6 μ).bind fun v7 =>
  xt_reduced_52 K6 v7 x4 s0 μ
noncomputable def xt_reduced_6 : Nat → Int → Int → Mem → Option Int
  | 0, _, _, _ => none
  | n + 1, x3, x4, μ =>
  if x4 < 0 then
    xt_reduced_77 x3 μ
  else
  (aget μ 5 8 x4).bind fun v1 =>
  if v1 = 0 then
  xt_reduced_32 (xt_reduced_6 n) x3 x4 0 μ
  else
    (pget x4).bind fun v2 =>
    if v2 = 0 then none else
    xt_reduced_32 (xt_reduced_6 n) x3 x4 (Int.tmod (w32 (Int.tdiv x3 v2)) 3) μ
noncomputable def xt_reduced (a1 : Int) (μ : Mem) : Option Int :=
  xt_reduced_6 FU a1 7 μ
noncomputable def xt_findLeads_107 (x3 : Int) (μ : Mem) : Option (Int × Mem) :=
  some (x3, μ)
noncomputable def xt_findLeads_101 (K10 : Int → Int → Int → Mem → Option (Int × Mem)) (x2 : Int) (x3 : Int) (x4 : Int) (μ : Mem) : Option (Int × Mem) :=
  bnd (w32 (x4 + 1)) fun v4 =>
  K10 x2 x3 v4 μ
noncomputable def xt_findLeads_97 (K10 : Int → Int → Int → Mem → Option (Int × Mem)) (x2 : Int) (x3 : Int) (x4 : Int) (s1 : Int) (s2 : Int) (μ : Mem) : Option (Int × Mem) :=
  (aput μ 5 8 s1 s2).bind fun μ8 =>
  bnd (w32 (x3 + 1)) fun v9 =>
  xt_findLeads_101 K10 x2 v9 x4 μ8
noncomputable def xt_findLeads_73 (K10 : Int → Int → Int → Mem → Option (Int × Mem)) (x2 : Int) (x3 : Int) (x4 : Int) (x5 : Int) (x6 : Int) (s0 : Int) (μ : Mem) : Option (Int × Mem) :=
  if s0 = 0 then
    (xj_twice x5 μ).bind fun v7 =>
    xt_findLeads_97 K10 x2 x3 x4 x6 v7 μ
  else
  xt_findLeads_97 K10 x2 x3 x4 x6 x5 μ
noncomputable def xt_findLeads_41 (K10 : Int → Int → Int → Mem → Option (Int × Mem)) (x2 : Int) (x3 : Int) (x4 : Int) (s0 : Int) (μ : Mem) : Option (Int × Mem) :=
  if s0 = 0 then
    xt_findLeads_101 K10 x2 x3 x4 μ
  else
  (xt_highestSpice s0).bind fun v5 =>
  (pget v5).bind fun v6 =>
  if v6 = 0 then none else
  if (w32 (Int.tdiv s0 v6)) = 1 then
  xt_findLeads_73 K10 x2 x3 x4 s0 v5 1 μ
  else
    xt_findLeads_73 K10 x2 x3 x4 s0 v5 0 μ
noncomputable def xt_findLeads_10 : Nat → Int → Int → Int → Mem → Option (Int × Mem)
  | 0, _, _, _, _ => none
  | n + 1, x2, x3, x4, μ =>
  if (μ 3 2) ≤ x4 then
    xt_findLeads_107 x3 μ
  else
  if x4 = x2 then
  xt_findLeads_41 (xt_findLeads_10 n) x2 x3 x4 0 μ
  else
    (aget μ 4 8 x4).bind fun v2 =>
    (xt_reduced v2 μ).bind fun v3 =>
    xt_findLeads_41 (xt_findLeads_10 n) x2 x3 x4 v3 μ
noncomputable def xt_findLeads (a1 : Int) (μ : Mem) : Option (Int × Mem) :=
  (jf_fill 0 μ).bind fun μ1 =>
  xt_findLeads_10 FU a1 0 0 μ1
noncomputable def xt_collectParts_40 (μ : Mem) : Option Mem :=
  some μ
noncomputable def xt_collectParts_34 (K4 : Int → Int → Mem → Option Mem) (x1 : Int) (x2 : Int) (μ : Mem) : Option Mem :=
  bnd (w32 (x2 + 1)) fun v2 =>
  K4 x1 v2 μ
noncomputable def xt_collectParts_4 : Nat → Int → Int → Mem → Option Mem
  | 0, _, _, _ => none
  | n + 1, x1, x2, μ =>
  if 8 ≤ x2 then
    xt_collectParts_40 μ
  else
  (aget μ 5 8 x2).bind fun v1 =>
  if v1 = 0 then
    xt_collectParts_34 (xt_collectParts_4 n) x1 x2 μ
  else
  (aget μ 5 8 x2).bind fun v3 =>
  (aput μ 7 8 x1 v3).bind fun μ4 =>
  bnd (w32 (x1 + 1)) fun v5 =>
  xt_collectParts_34 (xt_collectParts_4 n) v5 x2 μ4
noncomputable def xt_collectParts (μ : Mem) : Option Mem :=
  xt_collectParts_4 FU 0 0 μ
noncomputable def xt_learn (μ : Mem) : Option Mem :=
  (xt_isLearned μ).bind fun v1 =>
  if v1 = 0 then
    bnd (mst μ 3 2 (μ 10 5)) fun μ2 =>
    (acopy μ2 13 4 8 8 0 0 (μ2 3 2)).bind fun μ3 =>
    (xt_findLeads (-1) μ3).bind fun p4 =>
    bnd (mst p4.2 3 3 p4.1) fun μ5 =>
    (xt_collectParts μ5).bind fun μ6 =>
    some μ6
  else
  some μ
noncomputable def xt_leastLike (a1 : Int) (μ : Mem) : Option Int :=
  (xt_reduced a1 μ).bind fun v1 =>
  some (v1)
noncomputable def xx_tasteOf (a1 : Int) (μ : Mem) : Option (Int × Mem) :=
  (xt_learn μ).bind fun μ1 =>
  (xt_leastLike a1 μ1).bind fun v2 =>
  some (v2, μ1)
noncomputable def xt_nextLike_30 (x1 : Int) (x3 : Int) (μ : Mem) : Option Int :=
  (aget μ 7 8 x3).bind fun v1 =>
  (xj_join x1 v1 μ).bind fun v2 =>
  some (v2)
noncomputable def xt_nextLike_5 : Nat → Int → Int → Int → Mem → Option Int
  | 0, _, _, _, _ => none
  | n + 1, x1, x3, x4, μ =>
  if 7 ≤ x3 then
    xt_nextLike_30 x1 x3 μ
  else
  if (Int.tmod x4 3) = 0 then
  bnd (w32 (Int.tdiv x4 3)) fun v3 =>
  bnd (w32 (x3 + 1)) fun v4 =>
  xt_nextLike_5 n x1 v4 v3 μ
  else
    xt_nextLike_30 x1 x3 μ
noncomputable def xt_nextLike (a1 : Int) (a2 : Int) (μ : Mem) : Option Int :=
  xt_nextLike_5 FU a1 0 a2 μ
noncomputable def xt_someBlandLeads_47 (s0 : Int) (μ : Mem) : Option Int :=
  if s0 = 0 ∨ s0 = 1 then
  some (s0)
  else none
noncomputable def xt_someBlandLeads_37 (x2 : Int) (x3 : Int) (μ : Mem) : Option Int :=
  if x3 = x2 then
  xt_someBlandLeads_47 1 μ
  else
    xt_someBlandLeads_47 0 μ
noncomputable def xt_someBlandLeads_5 : Nat → Int → Int → Int → Mem → Option Int
  | 0, _, _, _, _ => none
  | n + 1, x2, x3, x4, μ =>
  (pget (μ 3 3)).bind fun v1 =>
  if v1 ≤ x4 then
    xt_someBlandLeads_37 x2 x3 μ
  else
  if x3 = x2 then
    xt_someBlandLeads_37 x2 x3 μ
  else
  (xt_nextLike x3 x4 μ).bind fun v2 =>
  bnd (w32 (x4 + 1)) fun v3 =>
  xt_someBlandLeads_5 n x2 v2 v3 μ
noncomputable def xt_someBlandLeads (a1 : Int) (a2 : Int) (μ : Mem) : Option Int :=
  xt_someBlandLeads_5 FU a2 a1 1 μ
noncomputable def xx_alike_14 (μ : Mem) : Option (Int × Mem) :=
  some ((-2), μ)
noncomputable def xx_alike_68 (s0 : Int) (μ : Mem) : Option (Int × Mem) :=
  some (s0, μ)
noncomputable def xx_alike_39 (s0 : Int) (μ : Mem) : Option (Int × Mem) :=
  some (s0, μ)
noncomputable def xx_alike (a1 : Int) (a2 : Int) (a3 : Int) (μ : Mem) : Option (Int × Mem) :=
  (xx_isMix a1).bind fun v1 =>
  if v1 = 0 then
    xx_alike_14 μ
  else
  (xx_isMix a2).bind fun v2 =>
  if v2 = 0 then
  xx_alike_14 μ
  else
    if a3 = 0 then
    (xx_tasteOf a1 μ).bind fun p5 =>
    (xx_tasteOf a2 p5.2).bind fun p6 =>
    if p5.1 = p6.1 then
    xx_alike_39 1 p6.2
    else
      xx_alike_39 0 p6.2
    else
      (xt_learn μ).bind fun μ3 =>
      (xt_someBlandLeads a1 a2 μ3).bind fun v4 =>
      if v4 = 0 then
        xx_alike_68 0 μ3
      else
      xx_alike_68 1 μ3
noncomputable def xx_unitsOf_28 (x1 : Int) : Option Int :=
  some (x1)
noncomputable def xx_unitsOf_4 : Nat → Int → Int → Int → Option Int
  | 0, _, _, _ => none
  | n + 1, x0, x1, x2 =>
  if 8 ≤ x2 then
    xx_unitsOf_28 x1
  else
  (pget x2).bind fun v1 =>
  if v1 = 0 then none else
  bnd (w32 (x1 + (Int.tmod (w32 (Int.tdiv x0 v1)) 3))) fun v2 =>
  bnd (w32 (x2 + 1)) fun v3 =>
  xx_unitsOf_4 n x0 v2 v3
noncomputable def xx_unitsOf (a1 : Int) : Option Int :=
  xx_unitsOf_4 FU a1 0 0
noncomputable def xx_unitsInJars_36 (x1 : Int) (μ : Mem) : Option Int :=
  some (x1)
noncomputable def xx_unitsInJars_4 : Nat → Int → Int → Mem → Option Int
  | 0, _, _, _ => none
  | n + 1, x1, x2, μ =>
  if (μ 10 2) ≤ x2 then
    xx_unitsInJars_36 x1 μ
  else
  (aget μ 12 12 x2).bind fun v1 =>
  (xx_unitsOf v1).bind fun v2 =>
  bnd (w32 (x1 + v2)) fun v3 =>
  bnd (w32 (x2 + 1)) fun v4 =>
  xx_unitsInJars_4 n v3 v4 μ
noncomputable def xx_unitsInJars (μ : Mem) : Option Int :=
  xx_unitsInJars_4 FU 0 0 μ
noncomputable def xx_accountTold_134 (μ : Mem) : Option Int :=
  some ((-2))
noncomputable def xx_accountTold (a1 : Int) (μ : Mem) : Option Int :=
  if a1 = 7 then
    some ((μ 16 0))
  else
  if a1 = 8 then
    some ((μ 16 1))
  else
  if a1 = 9 then
    some ((μ 16 2))
  else
  if a1 = 10 then
    some ((μ 16 3))
  else
  if a1 = 11 then
    xx_accountTold_134 μ
  else
  if a1 = 12 then
    some ((μ 16 4))
  else
  if a1 = 13 then
    some ((μ 16 5))
  else
  if a1 = 14 then
    some ((μ 16 6))
  else
  if a1 = 15 then
    some ((μ 16 7))
  else
  xx_accountTold_134 μ
noncomputable def xx_nextShelf_61 (x2 : Int) (μ : Mem) : Option Int :=
  some (x2)
noncomputable def xx_nextShelf_55 (K5 : Int → Int → Int → Mem → Option Int) (x1 : Int) (x2 : Int) (x3 : Int) (μ : Mem) : Option Int :=
  bnd (w32 (x3 + 1)) fun v3 =>
  K5 x1 x2 v3 μ
noncomputable def xx_nextShelf_52 (K5 : Int → Int → Int → Mem → Option Int) (x1 : Int) (x3 : Int) (x4 : Int) (μ : Mem) : Option Int :=
  xx_nextShelf_55 K5 x1 x4 x3 μ
noncomputable def xx_nextShelf_5 : Nat → Int → Int → Int → Mem → Option Int
  | 0, _, _, _, _ => none
  | n + 1, x1, x2, x3, μ =>
  if (μ 10 2) ≤ x3 then
    xx_nextShelf_61 x2 μ
  else
  (aget μ 12 12 x3).bind fun v1 =>
  (xt_leastLike v1 μ).bind fun v2 =>
  if v2 ≤ x1 then
    xx_nextShelf_55 (xx_nextShelf_5 n) x1 x2 x3 μ
  else
  if x2 = (-5) then
    xx_nextShelf_52 (xx_nextShelf_5 n) x1 x3 v2 μ
  else
  if x2 ≤ v2 then
    xx_nextShelf_55 (xx_nextShelf_5 n) x1 x2 x3 μ
  else
  xx_nextShelf_52 (xx_nextShelf_5 n) x1 x3 v2 μ
noncomputable def xx_nextShelf (a1 : Int) (μ : Mem) : Option Int :=
  xx_nextShelf_5 FU a1 (-5) 0 μ
noncomputable def xx_shelves_51 (x1 : Int) (μ : Mem) : Option (Int × Mem) :=
  some (x1, μ)
noncomputable def xx_shelves_21 : Nat → Int → Int → Int → Mem → Option (Int × Mem)
  | 0, _, _, _, _ => none
  | n + 1, x1, x2, x3, μ =>
  if (μ 10 2) ≤ x3 then
    xx_shelves_51 x1 μ
  else
  if x2 < 0 then
    xx_shelves_51 x1 μ
  else
  bnd (w32 (x1 + 1)) fun v3 =>
  (xx_nextShelf x2 μ).bind fun v4 =>
  bnd (w32 (x3 + 1)) fun v5 =>
  xx_shelves_21 n v3 v4 v5 μ
noncomputable def xx_shelves (μ : Mem) : Option (Int × Mem) :=
  (xt_learn μ).bind fun μ1 =>
  (xx_nextShelf (-1) μ1).bind fun v2 =>
  xx_shelves_21 FU 0 v2 0 μ1
noncomputable def xx_strength (μ : Mem) : Option (Int × Mem) :=
  (xt_learn μ).bind fun μ1 =>
  some ((μ1 3 3), μ1)
noncomputable def xx_count_164 (x1 : Int) (μ : Mem) : Option (Int × Mem) :=
  (xx_accountTold x1 μ).bind fun v7 =>
  some (v7, μ)
noncomputable def xx_count (a1 : Int) (μ : Mem) : Option (Int × Mem) :=
  if a1 = 0 then
    some ((μ 10 2), μ)
  else
  if a1 = 1 then
    some ((μ 10 5), μ)
  else
  if a1 = 2 then
    (xx_strength μ).bind fun p1 =>
    some (p1.1, p1.2)
  else
  if a1 = 3 then
    (xx_strength μ).bind fun p2 =>
    (pget p2.1).bind fun v3 =>
    some (v3, p2.2)
  else
  if a1 = 4 then
    (xx_strength μ).bind fun p4 =>
    (pget (w32 (8 - p4.1))).bind fun v5 =>
    some (v5, p4.2)
  else
  if a1 = 5 then
    (xx_shelves μ).bind fun p6 =>
    some (p6.1, p6.2)
  else
  if a1 = 6 then
    some ((μ 10 8), μ)
  else
  if a1 = 7 then
    xx_count_164 a1 μ
  else
  if a1 = 8 then
    xx_count_164 a1 μ
  else
  if a1 = 9 then
    xx_count_164 a1 μ
  else
  if a1 = 10 then
    xx_count_164 a1 μ
  else
  if a1 = 11 then
    (xx_unitsInJars μ).bind fun v8 =>
    some (v8, μ)
  else
  if a1 = 12 then
    xx_count_164 a1 μ
  else
  if a1 = 13 then
    xx_count_164 a1 μ
  else
  if a1 = 14 then
    xx_count_164 a1 μ
  else
  if a1 = 15 then
    xx_count_164 a1 μ
  else
  if a1 = 16 then
    some ((μ 24 2), μ)
  else
  if a1 = 17 then
    some ((μ 63 1), μ)
  else
  xx_count_164 a1 μ
noncomputable def xs_removeRule_40 (μ : Mem) : Option Mem :=
  some μ
noncomputable def xs_removeRule_12 : Nat → Int → Mem → Option Mem
  | 0, _, _ => none
  | n + 1, x2, μ =>
  if (μ 10 5) ≤ x2 then
    xs_removeRule_40 μ
  else
  (aget μ 13 8 (w32 (x2 + 1))).bind fun v2 =>
  (aput μ 13 8 x2 v2).bind fun μ3 =>
  bnd (w32 (x2 + 1)) fun v4 =>
  xs_removeRule_12 n v4 μ3
noncomputable def xs_removeRule (a1 : Int) (μ : Mem) : Option Mem :=
  bnd (mst μ 10 5 (w32 ((μ 10 5) - 1))) fun μ1 =>
  xs_removeRule_12 FU a1 μ1
noncomputable def xa_dropRule_15 (μ : Mem) : Option (Int × Mem) :=
  some ((-1), μ)
noncomputable def xa_dropRule (a1 : Int) (μ : Mem) : Option (Int × Mem) :=
  if a1 < 0 then
    xa_dropRule_15 μ
  else
  if a1 < (μ 10 5) then
    (xs_removeRule a1 μ).bind fun μ1 =>
    some ((μ1 10 5), μ1)
  else
  xa_dropRule_15 μ
noncomputable def xh_record (μ : Mem) : Option Mem :=
  bnd (mst μ 24 1 (Int.tmod (w32 ((μ 24 1) + 1)) 5)) fun μ1 =>
  bnd (if 4 < (w32 ((μ1 24 2) + 1)) then 4 else (w32 ((μ1 24 2) + 1))) fun v2 =>
  bnd (mst μ1 24 2 v2) fun μ3 =>
  some μ3
noncomputable def xx_ended_11 (x1 : Int) (μ : Mem) : Option (Int × Mem) :=
  some (x1, μ)
noncomputable def xx_ended (a1 : Int) (μ : Mem) : Option (Int × Mem) :=
  if a1 < 0 then
    xx_ended_11 a1 μ
  else
  (xh_record μ).bind fun μ1 =>
  xx_ended_11 a1 μ1
noncomputable def xx_drop_33 (s1 : Int) (μ : Mem) : Option (Int × Mem) :=
  (xx_ended s1 μ).bind fun p5 =>
  some (p5.1, p5.2)
noncomputable def xx_drop (a1 : Int) (μ : Mem) : Option (Int × Mem) :=
  (xh_prepare μ).bind fun μ1 =>
  (xa_dropRule a1 μ1).bind fun p2 =>
  bnd (p2.1) fun v3 =>
  if 0 ≤ v3 then
    (xx_strength p2.2).bind fun p4 =>
    xx_drop_33 p4.1 p4.2
  else
  xx_drop_33 v3 p2.2
noncomputable def xc_spread_97 (μ : Mem) : Option Mem :=
  some μ
noncomputable def xc_spread_81 (K14 : Int → Mem → Option Mem) (x3 : Int) (μ : Mem) : Option Mem :=
  bnd (mst μ 66 2 (w32 (2 * (μ 66 2)))) fun μ5 =>
  bnd (w32 (x3 + 1)) fun v6 =>
  K14 v6 μ5
noncomputable def xc_spread_37 (K14 : Int → Mem → Option Mem) : Nat → Int → Int → Int → Mem → Option Mem
  | 0, _, _, _, _ => none
  | n + 1, x3, x4, x5, μ =>
  if (μ 66 2) ≤ x5 then
    xc_spread_81 K14 x3 μ
  else
  (aget μ 67 4096 x5).bind fun v7 =>
  (xj_join v7 x4 μ).bind fun v8 =>
  (aput μ 67 4096 (w32 ((μ 66 2) + x5)) (n16 (n16 v8))).bind fun μ9 =>
  bnd (w32 (x5 + 1)) fun v10 =>
  xc_spread_37 K14 n x3 x4 v10 μ9
noncomputable def xc_spread_14 : Nat → Int → Mem → Option Mem
  | 0, _, _ => none
  | n + 1, x3, μ =>
  if (μ 10 2) ≤ x3 then
    xc_spread_97 μ
  else
  (aget μ 12 12 x3).bind fun v3 =>
  (xt_leastLike v3 μ).bind fun v4 =>
  xc_spread_37 (xc_spread_14 n) FU x3 v4 0 μ
noncomputable def xc_spread (μ : Mem) : Option Mem :=
  (aput μ 67 4096 0 (n16 0)).bind fun μ1 =>
  bnd (mst μ1 66 2 1) fun μ2 =>
  xc_spread_14 FU 0 μ2
noncomputable def jb_bitCount (a1 : Int) : Option Int :=
  bnd (w32 (a1 - (and32 (ushr32 a1 1) 1431655765))) fun v1 =>
  bnd (w32 ((and32 v1 858993459) + (and32 (ushr32 v1 2) 858993459))) fun v2 =>
  bnd (and32 (w32 (v2 + (ushr32 v2 4))) 252645135) fun v3 =>
  bnd (w32 (v3 + (ushr32 v3 8))) fun v4 =>
  bnd (w32 (v4 + (ushr32 v4 16))) fun v5 =>
  some (and32 v5 63)
noncomputable def xc_smallestLike_53 (x2 : Int) (μ : Mem) : Option Int :=
  some (x2)
noncomputable def xc_smallestLike_47 (K9 : Int → Int → Int → Int → Mem → Option Int) (x1 : Int) (x2 : Int) (x3 : Int) (x4 : Int) (μ : Mem) : Option Int :=
  bnd (w32 (x4 + 1)) fun v2 =>
  K9 x1 x2 x3 v2 μ
noncomputable def xc_smallestLike_9 : Nat → Int → Int → Int → Int → Mem → Option Int
  | 0, _, _, _, _, _ => none
  | n + 1, x1, x2, x3, x4, μ =>
  if (μ 66 2) ≤ x4 then
    xc_smallestLike_53 x2 μ
  else
  (aget μ 67 4096 x4).bind fun v1 =>
  if v1 = x1 then
  (jb_bitCount x4).bind fun v3 =>
  if x3 ≤ v3 then
    xc_smallestLike_47 (xc_smallestLike_9 n) x1 x2 x3 x4 μ
  else
  (jb_bitCount x4).bind fun v4 =>
  xc_smallestLike_47 (xc_smallestLike_9 n) x1 x4 v4 x4 μ
  else
    xc_smallestLike_47 (xc_smallestLike_9 n) x1 x2 x3 x4 μ
noncomputable def xc_smallestLike (a1 : Int) (μ : Mem) : Option Int :=
  xc_smallestLike_9 FU a1 (-5) 13 0 μ
noncomputable def xx_fewest_16 (μ : Mem) : Option (Int × Mem) :=
  some ((-2), μ)
noncomputable def xx_fewest_80 (s0 : Int) (μ : Mem) : Option (Int × Mem) :=
  some (s0, μ)
noncomputable def xx_fewest (a1 : Int) (a2 : Int) (μ : Mem) : Option (Int × Mem) :=
  (xx_isMix a1).bind fun v1 =>
  if v1 = 0 then
    xx_fewest_16 μ
  else
  if a2 < 0 then
    xx_fewest_16 μ
  else
  if a2 ≤ 1 then
    (xt_learn μ).bind fun μ2 =>
    (xc_spread μ2).bind fun μ3 =>
    (xt_leastLike a1 μ3).bind fun v4 =>
    (xc_smallestLike v4 μ3).bind fun v5 =>
    if 0 ≤ v5 then
      if a2 = 0 then
      (jb_bitCount v5).bind fun v6 =>
      xx_fewest_80 v6 μ3
      else
        xx_fewest_80 v5 μ3
    else
    some ((-5), μ3)
  else
  xx_fewest_16 μ
noncomputable def xs_placeOf_28 (μ : Mem) : Option Int :=
  some ((-1))
noncomputable def xs_placeOf_20 (x2 : Int) (μ : Mem) : Option Int :=
  some (x2)
noncomputable def xs_placeOf_2 : Nat → Int → Int → Mem → Option Int
  | 0, _, _, _ => none
  | n + 1, x1, x2, μ =>
  if (μ 10 2) ≤ x2 then
    xs_placeOf_28 μ
  else
  (aget μ 11 12 x2).bind fun v1 =>
  if v1 = x1 then
  xs_placeOf_20 x2 μ
  else
    bnd (w32 (x2 + 1)) fun v2 =>
    xs_placeOf_2 n x1 v2 μ
noncomputable def xs_placeOf (a1 : Int) (μ : Mem) : Option Int :=
  xs_placeOf_2 FU a1 0 μ
noncomputable def xx_ifPoured_28 (μ : Mem) : Option (Int × Mem) :=
  some ((-1), μ)
noncomputable def xx_ifPoured (a1 : Int) (a2 : Int) (μ : Mem) : Option (Int × Mem) :=
  (xs_placeOf a1 μ).bind fun v1 =>
  (xs_placeOf a2 μ).bind fun v2 =>
  if v1 < 0 then
    xx_ifPoured_28 μ
  else
  if 0 ≤ v2 then
    if v1 = v2 then
    some ((-2), μ)
    else
      (aget μ 12 12 v1).bind fun v3 =>
      (aget μ 12 12 v2).bind fun v4 =>
      (xj_join v3 v4 μ).bind fun v5 =>
      (xx_tasteOf v5 μ).bind fun p6 =>
      some (p6.1, p6.2)
  else
  xx_ifPoured_28 μ
noncomputable def xs_hasRoomForJar_24 (s0 : Int) (μ : Mem) : Option Int :=
  if s0 = 0 ∨ s0 = 1 then
  some (s0)
  else none
noncomputable def xs_hasRoomForJar_23 (μ : Mem) : Option Int :=
  xs_hasRoomForJar_24 0 μ
noncomputable def xs_hasRoomForJar (μ : Mem) : Option Int :=
  if 12 ≤ (μ 10 2) then
    xs_hasRoomForJar_23 μ
  else
  if 200 ≤ (μ 10 3) then
    xs_hasRoomForJar_23 μ
  else
  xs_hasRoomForJar_24 1 μ
noncomputable def xs_addJar (a1 : Int) (μ : Mem) : Option (Int × Mem) :=
  (aput μ 11 12 (μ 10 2) (μ 10 3)).bind fun μ1 =>
  (aput μ1 12 12 (μ1 10 2) a1).bind fun μ2 =>
  bnd (mst μ2 10 2 (w32 ((μ2 10 2) + 1))) fun μ3 =>
  bnd (mst μ3 10 3 (w32 ((μ3 10 3) + 1))) fun μ4 =>
  some ((μ 10 3), μ4)
noncomputable def xa_bringUnits_79 (x2 : Int) (x3 : Int) (x4 : Int) (μ : Mem) : Option (Int × Mem) :=
  bnd (mst μ 16 0 (w32 ((μ 16 0) + x3))) fun μ2 =>
  bnd (mst μ2 16 4 (w32 ((μ2 16 4) + x4))) fun μ3 =>
  (xx_unitsOf x2).bind fun v4 =>
  bnd (mst μ3 16 1 (w32 ((μ3 16 1) + (w32 (x3 - v4))))) fun μ5 =>
  (xs_addJar x2 μ5).bind fun p6 =>
  some (p6.1, p6.2)
noncomputable def xa_bringUnits_23 : Nat → Int → Int → Int → Int → Mem → Option (Int × Mem)
  | 0, _, _, _, _, _ => none
  | n + 1, x2, x3, x4, x5, μ =>
  if 8 ≤ x5 then
    xa_bringUnits_79 x2 x3 x4 μ
  else
  (aget μ 62 8 x5).bind fun v7 =>
  (pget x5).bind fun v8 =>
  bnd (w32 (x2 + (w32 ((Int.tmod v7 3) * v8)))) fun v9 =>
  (aget μ 62 8 x5).bind fun v10 =>
  bnd (w32 (x3 + v10)) fun v11 =>
  (aget μ 62 8 x5).bind fun v12 =>
  (aget μ 14 8 x5).bind fun v13 =>
  bnd (w32 (x4 + (w32 (v12 * v13)))) fun v14 =>
  bnd (w32 (x5 + 1)) fun v15 =>
  xa_bringUnits_23 n v9 v11 v14 v15 μ
noncomputable def xa_bringUnits (μ : Mem) : Option (Int × Mem) :=
  (xs_hasRoomForJar μ).bind fun v1 =>
  if v1 = 0 then
  some ((-3), μ)
  else
    xa_bringUnits_23 FU 0 0 0 0 μ
noncomputable def xa_bring_39 (μ : Mem) : Option (Int × Mem) :=
  (xa_bringUnits μ).bind fun p2 =>
  some (p2.1, p2.2)
noncomputable def xa_bring_12 : Nat → Int → Int → Mem → Option (Int × Mem)
  | 0, _, _, _ => none
  | n + 1, x1, x2, μ =>
  if 8 ≤ x2 then
    xa_bring_39 μ
  else
  (pget x2).bind fun v3 =>
  if v3 = 0 then none else
  (aput μ 62 8 x2 (Int.tmod (w32 (Int.tdiv x1 v3)) 3)).bind fun μ4 =>
  bnd (w32 (x2 + 1)) fun v5 =>
  xa_bring_12 n x1 v5 μ4
noncomputable def xa_bring (a1 : Int) (μ : Mem) : Option (Int × Mem) :=
  (xx_isMix a1).bind fun v1 =>
  if v1 = 0 then
  some ((-2), μ)
  else
    xa_bring_12 FU a1 0 μ
noncomputable def xx_jar (a1 : Int) (μ : Mem) : Option (Int × Mem) :=
  (xh_prepare μ).bind fun μ1 =>
  (xa_bring a1 μ1).bind fun p2 =>
  (xx_ended p2.1 p2.2).bind fun p3 =>
  some (p3.1, p3.2)
noncomputable def xx_costOf_32 (x2 : Int) (μ : Mem) : Option Int :=
  some (x2)
noncomputable def xx_costOf_4 : Nat → Int → Int → Int → Mem → Option Int
  | 0, _, _, _, _ => none
  | n + 1, x0, x2, x3, μ =>
  if 8 ≤ x3 then
    xx_costOf_32 x2 μ
  else
  (pget x3).bind fun v1 =>
  if v1 = 0 then none else
  (aget μ 14 8 x3).bind fun v2 =>
  bnd (w32 (x2 + (w32 ((Int.tmod (w32 (Int.tdiv x0 v1)) 3) * v2)))) fun v3 =>
  bnd (w32 (x3 + 1)) fun v4 =>
  xx_costOf_4 n x0 v3 v4 μ
noncomputable def xx_costOf (a1 : Int) (μ : Mem) : Option Int :=
  xx_costOf_4 FU a1 0 0 μ
noncomputable def xt_fillCosts_39 (μ : Mem) : Option Mem :=
  some μ
noncomputable def xt_fillCosts_2 : Nat → Int → Mem → Option Mem
  | 0, _, _ => none
  | n + 1, x2, μ =>
  if 81 ≤ x2 then
    xt_fillCosts_39 μ
  else
  (xx_costOf x2 μ).bind fun v1 =>
  (aput μ 8 81 x2 v1).bind fun μ2 =>
  (xx_costOf (w32 (x2 * 81)) μ2).bind fun v3 =>
  (aput μ2 9 81 x2 v3).bind fun μ4 =>
  bnd (w32 (x2 + 1)) fun v5 =>
  xt_fillCosts_2 n v5 μ4
noncomputable def xt_fillCosts (μ : Mem) : Option Mem :=
  xt_fillCosts_2 FU 0 μ
noncomputable def xt_cheapestLike_99 (x3 : Int) (μ : Mem) : Option (Int × Mem) :=
  some (x3, μ)
noncomputable def xt_cheapestLike_93 (K20 : Int → Int → Int → Int → Mem → Option (Int × Mem)) (x3 : Int) (x4 : Int) (x5 : Int) (x6 : Int) (μ : Mem) : Option (Int × Mem) :=
  bnd (w32 (x6 + 1)) fun v8 =>
  K20 x3 x4 x5 v8 μ
noncomputable def xt_cheapestLike_86 (K20 : Int → Int → Int → Int → Mem → Option (Int × Mem)) (x5 : Int) (x6 : Int) (x7 : Int) (μ : Mem) : Option (Int × Mem) :=
  xt_cheapestLike_93 K20 x5 x7 x5 x6 μ
noncomputable def xt_cheapestLike_20 : Nat → Int → Int → Int → Int → Mem → Option (Int × Mem)
  | 0, _, _, _, _, _ => none
  | n + 1, x3, x4, x5, x6, μ =>
  (pget (μ 3 3)).bind fun v3 =>
  if v3 ≤ x6 then
    xt_cheapestLike_99 x3 μ
  else
  (xt_nextLike x5 x6 μ).bind fun v4 =>
  (aget μ 8 81 (Int.tmod v4 81)).bind fun v5 =>
  (aget μ 9 81 (w32 (Int.tdiv v4 81))).bind fun v6 =>
  bnd (w32 (v5 + v6)) fun v7 =>
  if v7 < x4 then
    xt_cheapestLike_86 (xt_cheapestLike_20 n) v4 x6 v7 μ
  else
  if v7 = x4 then
  if x3 ≤ v4 then
    xt_cheapestLike_93 (xt_cheapestLike_20 n) x3 x4 v4 x6 μ
  else
  xt_cheapestLike_86 (xt_cheapestLike_20 n) v4 x6 v7 μ
  else
    xt_cheapestLike_93 (xt_cheapestLike_20 n) x3 x4 v4 x6 μ
noncomputable def xt_cheapestLike (a1 : Int) (μ : Mem) : Option (Int × Mem) :=
  (xt_fillCosts μ).bind fun μ1 =>
  (xx_costOf a1 μ1).bind fun v2 =>
  xt_cheapestLike_20 FU a1 v2 a1 1 μ1
noncomputable def xx_cheapestLike (a1 : Int) (μ : Mem) : Option (Int × Mem) :=
  (xt_learn μ).bind fun μ1 =>
  (xt_cheapestLike a1 μ1).bind fun p2 =>
  some (p2.1, p2.2)
noncomputable def xx_jarOf_111 (s0 : Int) (μ : Mem) : Option (Int × Mem) :=
  some (s0, μ)
noncomputable def xx_jarOf (a1 : Int) (a2 : Int) (μ : Mem) : Option (Int × Mem) :=
  (xs_placeOf a1 μ).bind fun v1 =>
  if 0 ≤ v1 then
    (aget μ 12 12 v1).bind fun v2 =>
    if a2 = 0 then
      some (v2, μ)
    else
    if a2 = 1 then
      (xx_unitsOf v2).bind fun v3 =>
      some (v3, μ)
    else
    if a2 = 2 then
      (xx_costOf v2 μ).bind fun v4 =>
      some (v4, μ)
    else
    if a2 = 3 then
      (xx_tasteOf v2 μ).bind fun p5 =>
      some (p5.1, p5.2)
    else
    if a2 = 4 then
      (xx_tasteOf v2 μ).bind fun p6 =>
      if p6.1 = 0 then
      xx_jarOf_111 1 p6.2
      else
        xx_jarOf_111 0 p6.2
    else
    if a2 = 5 then
      (xx_cheapestLike v2 μ).bind fun p7 =>
      some (p7.1, p7.2)
    else
    if a2 = 6 then
      (xx_cheapestLike v2 μ).bind fun p8 =>
      (xx_costOf p8.1 p8.2).bind fun v9 =>
      some (v9, p8.2)
    else
    some ((-2), μ)
  else
  some ((-1), μ)
noncomputable def jf_fill_c68_20 (μ : Mem) : Option Mem :=
  some μ
noncomputable def jf_fill_c68_5 : Nat → Int → Int → Int → Mem → Option Mem
  | 0, _, _, _, _ => none
  | n + 1, x1, x2, x3, μ =>
  if x3 ≤ x2 then
    jf_fill_c68_20 μ
  else
  (aput μ 68 206 x2 x1).bind fun μ1 =>
  bnd (w32 (x2 + 1)) fun v2 =>
  jf_fill_c68_5 n x1 v2 x3 μ1
noncomputable def jf_fill_c68 (a1 : Int) (μ : Mem) : Option Mem :=
  jf_fill_c68_5 FU a1 0 206 μ
noncomputable def xc_differentTastes_75 (x1 : Int) (μ : Mem) : Option (Int × Mem) :=
  some (x1, μ)
noncomputable def xc_differentTastes_69 (K12 : Int → Int → Mem → Option (Int × Mem)) (x1 : Int) (x2 : Int) (μ : Mem) : Option (Int × Mem) :=
  bnd (w32 (x2 + 1)) fun v7 =>
  K12 x1 v7 μ
noncomputable def xc_differentTastes_12 : Nat → Int → Int → Mem → Option (Int × Mem)
  | 0, _, _, _ => none
  | n + 1, x1, x2, μ =>
  if (μ 66 2) ≤ x2 then
    xc_differentTastes_75 x1 μ
  else
  (aget μ 67 4096 x2).bind fun v2 =>
  bnd (w32 (Int.tdiv v2 32)) fun v3 =>
  (aget μ 67 4096 x2).bind fun v4 =>
  bnd (shl32 1 (Int.tmod v4 32)) fun v5 =>
  (aget μ 68 206 v3).bind fun v6 =>
  if (and32 v6 v5) = 0 then
  (aget μ 68 206 v3).bind fun v8 =>
  (aput μ 68 206 v3 (or32 v8 v5)).bind fun μ9 =>
  bnd (w32 (x1 + 1)) fun v10 =>
  xc_differentTastes_69 (xc_differentTastes_12 n) v10 x2 μ9
  else
    xc_differentTastes_69 (xc_differentTastes_12 n) x1 x2 μ
noncomputable def xc_differentTastes (μ : Mem) : Option (Int × Mem) :=
  (jf_fill_c68 0 μ).bind fun μ1 =>
  xc_differentTastes_12 FU 0 0 μ1
noncomputable def xx_makes (μ : Mem) : Option (Int × Mem) :=
  (xt_learn μ).bind fun μ1 =>
  (xc_spread μ1).bind fun μ2 =>
  (xc_differentTastes μ2).bind fun p3 =>
  some (p3.1, p3.2)
noncomputable def xx_jarsLike_44 (x2 : Int) (μ : Mem) : Option Int :=
  some (x2)
noncomputable def xx_jarsLike_38 (K4 : Int → Int → Int → Mem → Option Int) (x1 : Int) (x2 : Int) (x3 : Int) (μ : Mem) : Option Int :=
  bnd (w32 (x3 + 1)) fun v3 =>
  K4 x1 x2 v3 μ
noncomputable def xx_jarsLike_4 : Nat → Int → Int → Int → Mem → Option Int
  | 0, _, _, _, _ => none
  | n + 1, x1, x2, x3, μ =>
  if (μ 10 2) ≤ x3 then
    xx_jarsLike_44 x2 μ
  else
  (aget μ 12 12 x3).bind fun v1 =>
  (xt_leastLike v1 μ).bind fun v2 =>
  if v2 = x1 then
  bnd (w32 (x2 + 1)) fun v4 =>
  xx_jarsLike_38 (xx_jarsLike_4 n) x1 v4 x3 μ
  else
    xx_jarsLike_38 (xx_jarsLike_4 n) x1 x2 x3 μ
noncomputable def xx_jarsLike (a1 : Int) (μ : Mem) : Option Int :=
  xx_jarsLike_4 FU a1 0 0 μ
noncomputable def xx_mixOf_88 (s0 : Int) (μ : Mem) : Option (Int × Mem) :=
  some (s0, μ)
noncomputable def xx_mixOf (a1 : Int) (a2 : Int) (μ : Mem) : Option (Int × Mem) :=
  (xx_isMix a1).bind fun v1 =>
  if v1 = 0 then
  some ((-2), μ)
  else
    if a2 = 0 then
      (xx_unitsOf a1).bind fun v2 =>
      some (v2, μ)
    else
    if a2 = 1 then
      (xx_costOf a1 μ).bind fun v3 =>
      some (v3, μ)
    else
    if a2 = 2 then
      (xx_tasteOf a1 μ).bind fun p4 =>
      some (p4.1, p4.2)
    else
    if a2 = 3 then
      (xx_tasteOf a1 μ).bind fun p5 =>
      if p5.1 = 0 then
      xx_mixOf_88 1 p5.2
      else
        xx_mixOf_88 0 p5.2
    else
    if a2 = 4 then
      (xx_cheapestLike a1 μ).bind fun p6 =>
      some (p6.1, p6.2)
    else
    if a2 = 5 then
      (xj_twice a1 μ).bind fun v7 =>
      some (v7, μ)
    else
    if a2 = 6 then
      (xx_tasteOf a1 μ).bind fun p8 =>
      (xx_jarsLike p8.1 p8.2).bind fun v9 =>
      some (v9, p8.2)
    else
    some ((-2), μ)
noncomputable def xa_mixInto (a1 : Int) (a2 : Int) (μ : Mem) : Option (Int × Mem) :=
  (aget μ 12 12 a1).bind fun v1 =>
  (xj_join v1 a2 μ).bind fun v2 =>
  (xx_unitsOf v1).bind fun v3 =>
  (xx_unitsOf a2).bind fun v4 =>
  (xx_unitsOf v2).bind fun v5 =>
  bnd (w32 ((w32 (v3 + v4)) - v5)) fun v6 =>
  (aput μ 12 12 a1 v2).bind fun μ7 =>
  bnd (mst μ7 16 1 (w32 ((μ7 16 1) + v6))) fun μ8 =>
  some (v6, μ8)
noncomputable def xa_buyAgain (a1 : Int) (μ : Mem) : Option (Int × Mem) :=
  (xs_placeOf a1 μ).bind fun v1 =>
  if 0 ≤ v1 then
    (aget μ 12 12 v1).bind fun v2 =>
    if v2 = 0 then
    some ((-5), μ)
    else
      (xx_unitsOf v2).bind fun v3 =>
      bnd (mst μ 16 0 (w32 ((μ 16 0) + v3))) fun μ4 =>
      (xx_costOf v2 μ4).bind fun v5 =>
      bnd (mst μ4 16 4 (w32 ((μ4 16 4) + v5))) fun μ6 =>
      (xa_mixInto v1 v2 μ6).bind fun p7 =>
      (aget p7.2 12 12 v1).bind fun v8 =>
      some (v8, p7.2)
  else
  some ((-1), μ)
noncomputable def xx_more (a1 : Int) (μ : Mem) : Option (Int × Mem) :=
  (xh_prepare μ).bind fun μ1 =>
  (xa_buyAgain a1 μ1).bind fun p2 =>
  (xx_ended p2.1 p2.2).bind fun p3 =>
  some (p3.1, p3.2)
noncomputable def jf_fill_c6_20 (μ : Mem) : Option Mem :=
  some μ
noncomputable def jf_fill_c6_5 : Nat → Int → Int → Int → Mem → Option Mem
  | 0, _, _, _, _ => none
  | n + 1, x1, x2, x3, μ =>
  if x3 ≤ x2 then
    jf_fill_c6_20 μ
  else
  (aput μ 6 8 x2 x1).bind fun μ1 =>
  bnd (w32 (x2 + 1)) fun v2 =>
  jf_fill_c6_5 n x1 v2 x3 μ1
noncomputable def jf_fill_c6 (a1 : Int) (μ : Mem) : Option Mem :=
  jf_fill_c6_5 FU a1 0 8 μ
noncomputable def xt_reduced_c6_77 (x3 : Int) (μ : Mem) : Option Int :=
  some (x3)
noncomputable def xt_reduced_c6_71 (K6 : Int → Int → Mem → Option Int) (x3 : Int) (x4 : Int) (μ : Mem) : Option Int :=
  bnd (w32 (x4 + (-1))) fun v3 =>
  K6 x3 v3 μ
noncomputable def xt_reduced_c6_52 (K6 : Int → Int → Mem → Option Int) (x3 : Int) (x4 : Int) (x5 : Int) (μ : Mem) : Option Int :=
  if x5 = 1 then
  (aget μ 6 8 x4).bind fun v4 =>
  (xj_join x3 v4 μ).bind fun v5 =>
  xt_reduced_c6_71 K6 v5 x4 μ
  else
    xt_reduced_c6_71 K6 x3 x4 μ
noncomputable def xt_reduced_c6_32 (K6 : Int → Int → Mem → Option Int) (x3 : Int) (x4 : Int) (s0 : Int) (μ : Mem) : Option Int :=
  if s0 ≤ 0 then
    xt_reduced_c6_52 K6 x3 x4 s0 μ
  else
  (aget μ 6 8 x4).bind fun v6 =>
  (xj_join x3 v6 μ).bind fun v7 =>
  xt_reduced_c6_52 K6 v7 x4 s0 μ
noncomputable def xt_reduced_c6_6 : Nat → Int → Int → Mem → Option Int
  | 0, _, _, _ => none
  | n + 1, x3, x4, μ =>
  if x4 < 0 then
    xt_reduced_c6_77 x3 μ
  else
  (aget μ 6 8 x4).bind fun v1 =>
  if v1 = 0 then
  xt_reduced_c6_32 (xt_reduced_c6_6 n) x3 x4 0 μ
  else
    (pget x4).bind fun v2 =>
    if v2 = 0 then none else
    xt_reduced_c6_32 (xt_reduced_c6_6 n) x3 x4 (Int.tmod (w32 (Int.tdiv x3 v2)) 3) μ
noncomputable def xt_reduced_c6 (a1 : Int) (μ : Mem) : Option Int :=
  xt_reduced_c6_6 FU a1 7 μ
noncomputable def xt_findLeads_c6_107 (x3 : Int) (μ : Mem) : Option (Int × Mem) :=
  some (x3, μ)
noncomputable def xt_findLeads_c6_101 (K10 : Int → Int → Int → Mem → Option (Int × Mem)) (x2 : Int) (x3 : Int) (x4 : Int) (μ : Mem) : Option (Int × Mem) :=
  bnd (w32 (x4 + 1)) fun v4 =>
  K10 x2 x3 v4 μ
noncomputable def xt_findLeads_c6_97 (K10 : Int → Int → Int → Mem → Option (Int × Mem)) (x2 : Int) (x3 : Int) (x4 : Int) (s1 : Int) (s2 : Int) (μ : Mem) : Option (Int × Mem) :=
  (aput μ 6 8 s1 s2).bind fun μ8 =>
  bnd (w32 (x3 + 1)) fun v9 =>
  xt_findLeads_c6_101 K10 x2 v9 x4 μ8
noncomputable def xt_findLeads_c6_73 (K10 : Int → Int → Int → Mem → Option (Int × Mem)) (x2 : Int) (x3 : Int) (x4 : Int) (x5 : Int) (x6 : Int) (s0 : Int) (μ : Mem) : Option (Int × Mem) :=
  if s0 = 0 then
    (xj_twice x5 μ).bind fun v7 =>
    xt_findLeads_c6_97 K10 x2 x3 x4 x6 v7 μ
  else
  xt_findLeads_c6_97 K10 x2 x3 x4 x6 x5 μ
noncomputable def xt_findLeads_c6_41 (K10 : Int → Int → Int → Mem → Option (Int × Mem)) (x2 : Int) (x3 : Int) (x4 : Int) (s0 : Int) (μ : Mem) : Option (Int × Mem) :=
  if s0 = 0 then
    xt_findLeads_c6_101 K10 x2 x3 x4 μ
  else
  (xt_highestSpice s0).bind fun v5 =>
  (pget v5).bind fun v6 =>
  if v6 = 0 then none else
  if (w32 (Int.tdiv s0 v6)) = 1 then
  xt_findLeads_c6_73 K10 x2 x3 x4 s0 v5 1 μ
  else
    xt_findLeads_c6_73 K10 x2 x3 x4 s0 v5 0 μ
noncomputable def xt_findLeads_c6_10 : Nat → Int → Int → Int → Mem → Option (Int × Mem)
  | 0, _, _, _, _ => none
  | n + 1, x2, x3, x4, μ =>
  if (μ 3 2) ≤ x4 then
    xt_findLeads_c6_107 x3 μ
  else
  if x4 = x2 then
  xt_findLeads_c6_41 (xt_findLeads_c6_10 n) x2 x3 x4 0 μ
  else
    (aget μ 4 8 x4).bind fun v2 =>
    (xt_reduced_c6 v2 μ).bind fun v3 =>
    xt_findLeads_c6_41 (xt_findLeads_c6_10 n) x2 x3 x4 v3 μ
noncomputable def xt_findLeads_c6 (a1 : Int) (μ : Mem) : Option (Int × Mem) :=
  (jf_fill_c6 0 μ).bind fun μ1 =>
  xt_findLeads_c6_10 FU a1 0 0 μ1
noncomputable def xt_firstNeedless_34 (μ : Mem) : Option (Int × Mem) :=
  some ((-5), μ)
noncomputable def xt_firstNeedless_26 (x1 : Int) (μ : Mem) : Option (Int × Mem) :=
  some (x1, μ)
noncomputable def xt_firstNeedless_2 : Nat → Int → Mem → Option (Int × Mem)
  | 0, _, _ => none
  | n + 1, x1, μ =>
  if (μ 3 2) ≤ x1 then
    xt_firstNeedless_34 μ
  else
  (xt_findLeads_c6 x1 μ).bind fun p1 =>
  if p1.1 = (p1.2 3 3) then
  xt_firstNeedless_26 x1 p1.2
  else
    bnd (w32 (x1 + 1)) fun v2 =>
    xt_firstNeedless_2 n v2 p1.2
noncomputable def xt_firstNeedless (μ : Mem) : Option (Int × Mem) :=
  xt_firstNeedless_2 FU 0 μ
noncomputable def xx_needless (μ : Mem) : Option (Int × Mem) :=
  (xt_learn μ).bind fun μ1 =>
  (xt_firstNeedless μ1).bind fun p2 =>
  some (p2.1, p2.2)
noncomputable def xa_pourInto_28 (μ : Mem) : Option (Int × Mem) :=
  some ((-1), μ)
noncomputable def xa_pourInto (a1 : Int) (a2 : Int) (μ : Mem) : Option (Int × Mem) :=
  (xs_placeOf a1 μ).bind fun v1 =>
  (xs_placeOf a2 μ).bind fun v2 =>
  if v1 < 0 then
    xa_pourInto_28 μ
  else
  if 0 ≤ v2 then
    if v1 = v2 then
    some ((-2), μ)
    else
      (aget μ 12 12 v1).bind fun v3 =>
      if v3 = 0 then
      some ((-5), μ)
      else
        (aput μ 12 12 v1 0).bind fun μ4 =>
        (xa_mixInto v2 v3 μ4).bind fun p5 =>
        some (p5.1, p5.2)
  else
  xa_pourInto_28 μ
noncomputable def xx_pour (a1 : Int) (a2 : Int) (μ : Mem) : Option (Int × Mem) :=
  (xh_prepare μ).bind fun μ1 =>
  (xa_pourInto a1 a2 μ1).bind fun p2 =>
  (xx_ended p2.1 p2.2).bind fun p3 =>
  some (p3.1, p3.2)
noncomputable def xa_setPrice_10 (μ : Mem) : Option (Int × Mem) :=
  some ((-1), μ)
noncomputable def xa_setPrice_22 (μ : Mem) : Option (Int × Mem) :=
  some ((-2), μ)
noncomputable def xa_setPrice (a1 : Int) (a2 : Int) (μ : Mem) : Option (Int × Mem) :=
  if a1 < 0 then
    xa_setPrice_10 μ
  else
  if a1 < 8 then
    if a2 < 0 then
      xa_setPrice_22 μ
    else
    if a2 ≤ 99 then
      (aget μ 14 8 a1).bind fun v1 =>
      if v1 = a2 then
      some ((-5), μ)
      else
        (aput μ 14 8 a1 a2).bind fun μ2 =>
        some (v1, μ2)
    else
    xa_setPrice_22 μ
  else
  xa_setPrice_10 μ
noncomputable def xx_price (a1 : Int) (a2 : Int) (μ : Mem) : Option (Int × Mem) :=
  (xh_prepare μ).bind fun μ1 =>
  (xa_setPrice a1 a2 μ1).bind fun p2 =>
  (xx_ended p2.1 p2.2).bind fun p3 =>
  some (p3.1, p3.2)
noncomputable def xx_ranked_32 (s0 : Int) (μ : Mem) : Option Int :=
  some (s0)
noncomputable def xx_ranked (a1 : Int) (μ : Mem) : Option Int :=
  if 0 ≤ a1 then
    if (μ 10 2) ≤ a1 then
      xx_ranked_32 (-5) μ
    else
    (aget μ 11 12 a1).bind fun v1 =>
    xx_ranked_32 v1 μ
  else
  some ((-2))
noncomputable def xa_makeBland (a1 : Int) (μ : Mem) : Option (Int × Mem) :=
  (xx_isMix a1).bind fun v1 =>
  if v1 = 0 then
  some ((-2), μ)
  else
    if (μ 10 5) < 8 then
      (aput μ 13 8 (μ 10 5) a1).bind fun μ2 =>
      bnd (mst μ2 10 5 (w32 ((μ2 10 5) + 1))) fun μ3 =>
      some ((μ3 10 5), μ3)
    else
    some ((-3), μ)
noncomputable def xx_rule_33 (s1 : Int) (μ : Mem) : Option (Int × Mem) :=
  (xx_ended s1 μ).bind fun p5 =>
  some (p5.1, p5.2)
noncomputable def xx_rule (a1 : Int) (μ : Mem) : Option (Int × Mem) :=
  (xh_prepare μ).bind fun μ1 =>
  (xa_makeBland a1 μ1).bind fun p2 =>
  bnd (p2.1) fun v3 =>
  if 0 ≤ v3 then
    (xx_strength p2.2).bind fun p4 =>
    xx_rule_33 p4.1 p4.2
  else
  xx_rule_33 v3 p2.2
noncomputable def xx_ruleOf_28 (s0 : Int) (μ : Mem) : Option Int :=
  some (s0)
noncomputable def xx_ruleOf_27 (μ : Mem) : Option Int :=
  xx_ruleOf_28 (-1) μ
noncomputable def xx_ruleOf (a1 : Int) (μ : Mem) : Option Int :=
  if a1 < 0 then
    xx_ruleOf_27 μ
  else
  if (μ 10 5) ≤ a1 then
    xx_ruleOf_27 μ
  else
  (aget μ 13 8 a1).bind fun v1 =>
  xx_ruleOf_28 v1 μ
noncomputable def xs_removeFirstWant_47 (x1 : Int) (μ : Mem) : Option (Int × Mem) :=
  some (x1, μ)
noncomputable def xs_removeFirstWant_19 : Nat → Int → Int → Mem → Option (Int × Mem)
  | 0, _, _, _ => none
  | n + 1, x1, x2, μ =>
  if (μ 10 8) ≤ x2 then
    xs_removeFirstWant_47 x1 μ
  else
  (aget μ 15 8 (w32 (x2 + 1))).bind fun v2 =>
  (aput μ 15 8 x2 v2).bind fun μ3 =>
  bnd (w32 (x2 + 1)) fun v4 =>
  xs_removeFirstWant_19 n x1 v4 μ3
noncomputable def xs_removeFirstWant (μ : Mem) : Option (Int × Mem) :=
  bnd (mst μ 10 8 (w32 ((μ 10 8) - 1))) fun μ1 =>
  xs_removeFirstWant_19 FU (μ 15 0) 0 μ1
noncomputable def xt_firstJarLike_32 (μ : Mem) : Option Int :=
  some ((-5))
noncomputable def xt_firstJarLike_24 (x3 : Int) (μ : Mem) : Option Int :=
  some (x3)
noncomputable def xt_firstJarLike_2 : Nat → Int → Int → Mem → Option Int
  | 0, _, _, _ => none
  | n + 1, x1, x3, μ =>
  if (μ 10 2) ≤ x3 then
    xt_firstJarLike_32 μ
  else
  (aget μ 12 12 x3).bind fun v1 =>
  (xt_leastLike v1 μ).bind fun v2 =>
  if v2 = x1 then
  xt_firstJarLike_24 x3 μ
  else
    bnd (w32 (x3 + 1)) fun v3 =>
    xt_firstJarLike_2 n x1 v3 μ
noncomputable def xt_firstJarLike (a1 : Int) (μ : Mem) : Option Int :=
  xt_firstJarLike_2 FU a1 0 μ
noncomputable def xs_removeJar_54 (μ : Mem) : Option Mem :=
  some μ
noncomputable def xs_removeJar_12 : Nat → Int → Mem → Option Mem
  | 0, _, _ => none
  | n + 1, x2, μ =>
  if (μ 10 2) ≤ x2 then
    xs_removeJar_54 μ
  else
  (aget μ 11 12 (w32 (x2 + 1))).bind fun v2 =>
  (aput μ 11 12 x2 v2).bind fun μ3 =>
  (aget μ3 12 12 (w32 (x2 + 1))).bind fun v4 =>
  (aput μ3 12 12 x2 v4).bind fun μ5 =>
  bnd (w32 (x2 + 1)) fun v6 =>
  xs_removeJar_12 n v6 μ5
noncomputable def xs_removeJar (a1 : Int) (μ : Mem) : Option Mem :=
  bnd (mst μ 10 2 (w32 ((μ 10 2) - 1))) fun μ1 =>
  xs_removeJar_12 FU a1 μ1
noncomputable def xa_sell (a1 : Int) (μ : Mem) : Option (Int × Mem) :=
  (aget μ 12 12 a1).bind fun v1 =>
  (xx_costOf v1 μ).bind fun v2 =>
  bnd (w32 (v2 + (w32 (Int.tdiv v2 2)))) fun v3 =>
  (xx_unitsOf v1).bind fun v4 =>
  bnd (mst μ 16 2 (w32 ((μ 16 2) + v4))) fun μ5 =>
  bnd (mst μ5 16 5 (w32 ((μ5 16 5) + v3))) fun μ6 =>
  bnd (mst μ6 16 6 (w32 ((μ6 16 6) + 1))) fun μ7 =>
  (xs_removeJar a1 μ7).bind fun μ8 =>
  some (v3, μ8)
noncomputable def xa_serveFirst (μ : Mem) : Option (Int × Mem) :=
  if (μ 10 8) = 0 then
  some ((-5), μ)
  else
    (xs_removeFirstWant μ).bind fun p1 =>
    bnd (p1.1) fun v2 =>
    (xt_learn p1.2).bind fun μ3 =>
    (xt_leastLike v2 μ3).bind fun v4 =>
    (xt_firstJarLike v4 μ3).bind fun v5 =>
    if 0 ≤ v5 then
      (xa_sell v5 μ3).bind fun p6 =>
      some (p6.1, p6.2)
    else
    bnd (mst μ3 16 7 (w32 ((μ3 16 7) + 1))) fun μ7 =>
    some (0, μ7)
noncomputable def xx_serve (μ : Mem) : Option (Int × Mem) :=
  (xh_prepare μ).bind fun μ1 =>
  (xa_serveFirst μ1).bind fun p2 =>
  (xx_ended p2.1 p2.2).bind fun p3 =>
  some (p3.1, p3.2)
noncomputable def xx_tasteOfShelf_43 (x2 : Int) (μ : Mem) : Option Int :=
  some (x2)
noncomputable def xx_tasteOfShelf_22 : Nat → Int → Int → Int → Mem → Option Int
  | 0, _, _, _, _ => none
  | n + 1, x1, x2, x3, μ =>
  if x1 ≤ x3 then
    xx_tasteOfShelf_43 x2 μ
  else
  if x2 < 0 then
    xx_tasteOfShelf_43 x2 μ
  else
  (xx_nextShelf x2 μ).bind fun v2 =>
  bnd (w32 (x3 + 1)) fun v3 =>
  xx_tasteOfShelf_22 n x1 v2 v3 μ
noncomputable def xx_tasteOfShelf (a1 : Int) (μ : Mem) : Option Int :=
  if a1 < (μ 10 2) then
    (xx_nextShelf (-1) μ).bind fun v1 =>
    xx_tasteOfShelf_22 FU a1 v1 0 μ
  else
  some ((-5))
noncomputable def xx_cheapestJarLike_107 (x2 : Int) (μ : Mem) : Option Int :=
  some (x2)
noncomputable def xx_cheapestJarLike_101 (K8 : Int → Int → Int → Int → Mem → Option Int) (x1 : Int) (x2 : Int) (x3 : Int) (x4 : Int) (μ : Mem) : Option Int :=
  bnd (w32 (x4 + 1)) fun v3 =>
  K8 x1 x2 x3 v3 μ
noncomputable def xx_cheapestJarLike_59 (K8 : Int → Int → Int → Int → Mem → Option Int) (x1 : Int) (x2 : Int) (x3 : Int) (x4 : Int) (x5 : Int) (s0 : Int) (μ : Mem) : Option Int :=
  if s0 = 0 then
    xx_cheapestJarLike_101 K8 x1 x2 x3 x4 μ
  else
  (aget μ 12 12 x4).bind fun v4 =>
  (xt_leastLike v4 μ).bind fun v5 =>
  if v5 = x1 then
  (aget μ 11 12 x4).bind fun v6 =>
  xx_cheapestJarLike_101 K8 x1 v6 x5 x4 μ
  else
    xx_cheapestJarLike_101 K8 x1 x2 x3 x4 μ
noncomputable def xx_cheapestJarLike_54 (K8 : Int → Int → Int → Int → Mem → Option Int) (x1 : Int) (x2 : Int) (x3 : Int) (x4 : Int) (x5 : Int) (μ : Mem) : Option Int :=
  xx_cheapestJarLike_59 K8 x1 x2 x3 x4 x5 1 μ
noncomputable def xx_cheapestJarLike_8 : Nat → Int → Int → Int → Int → Mem → Option Int
  | 0, _, _, _, _, _ => none
  | n + 1, x1, x2, x3, x4, μ =>
  if (μ 10 2) ≤ x4 then
    xx_cheapestJarLike_107 x2 μ
  else
  (aget μ 12 12 x4).bind fun v1 =>
  (xx_costOf v1 μ).bind fun v2 =>
  if x2 = (-5) then
    xx_cheapestJarLike_54 (xx_cheapestJarLike_8 n) x1 x2 x3 x4 v2 μ
  else
  if x3 ≤ v2 then
    xx_cheapestJarLike_59 (xx_cheapestJarLike_8 n) x1 x2 x3 x4 v2 0 μ
  else
  xx_cheapestJarLike_54 (xx_cheapestJarLike_8 n) x1 x2 x3 x4 v2 μ
noncomputable def xx_cheapestJarLike (a1 : Int) (μ : Mem) : Option Int :=
  xx_cheapestJarLike_8 FU a1 (-5) 0 0 μ
noncomputable def xx_lowestJarLike_31 (s0 : Int) (μ : Mem) : Option Int :=
  some (s0)
noncomputable def xx_lowestJarLike (a1 : Int) (μ : Mem) : Option Int :=
  (xt_firstJarLike a1 μ).bind fun v1 =>
  if 0 ≤ v1 then
    (aget μ 11 12 v1).bind fun v2 =>
    xx_lowestJarLike_31 v2 μ
  else
  xx_lowestJarLike_31 (-5) μ
noncomputable def xx_shelf_13 (μ : Mem) : Option (Int × Mem) :=
  some ((-2), μ)
noncomputable def xx_shelf (a1 : Int) (a2 : Int) (μ : Mem) : Option (Int × Mem) :=
  if a1 < 0 then
    xx_shelf_13 μ
  else
  if a2 < 0 then
    xx_shelf_13 μ
  else
  if a2 ≤ 3 then
    (xt_learn μ).bind fun μ1 =>
    (xx_tasteOfShelf a1 μ1).bind fun v2 =>
    if 0 ≤ v2 then
      if a2 = 0 then
        some (v2, μ1)
      else
      if a2 = 1 then
        (xx_jarsLike v2 μ1).bind fun v3 =>
        some (v3, μ1)
      else
      if a2 = 2 then
        (xx_lowestJarLike v2 μ1).bind fun v4 =>
        some (v4, μ1)
      else
      (xx_cheapestJarLike v2 μ1).bind fun v5 =>
      some (v5, μ1)
    else
    some ((-5), μ1)
  else
  xx_shelf_13 μ
noncomputable def xa_throwOut (a1 : Int) (μ : Mem) : Option (Int × Mem) :=
  (xs_placeOf a1 μ).bind fun v1 =>
  if 0 ≤ v1 then
    (aget μ 12 12 v1).bind fun v2 =>
    (xx_unitsOf v2).bind fun v3 =>
    bnd (mst μ 16 3 (w32 ((μ 16 3) + v3))) fun μ4 =>
    (xs_removeJar v1 μ4).bind fun μ5 =>
    some (v3, μ5)
  else
  some ((-1), μ)
noncomputable def xx_throwAway (a1 : Int) (μ : Mem) : Option (Int × Mem) :=
  (xh_prepare μ).bind fun μ1 =>
  (xa_throwOut a1 μ1).bind fun p2 =>
  (xx_ended p2.1 p2.2).bind fun p3 =>
  some (p3.1, p3.2)
noncomputable def xx_together_28 (s0 : Int) (μ : Mem) : Option Int :=
  some (s0)
noncomputable def xx_together_26 (μ : Mem) : Option Int :=
  xx_together_28 (-2) μ
noncomputable def xx_together (a1 : Int) (a2 : Int) (μ : Mem) : Option Int :=
  (xx_isMix a1).bind fun v1 =>
  if v1 = 0 then
    xx_together_26 μ
  else
  (xx_isMix a2).bind fun v2 =>
  if v2 = 0 then
    xx_together_26 μ
  else
  (xj_join a1 a2 μ).bind fun v3 =>
  xx_together_28 v3 μ
noncomputable def xh_stepBack (μ : Mem) : Option (Int × Mem) :=
  if (μ 24 2) = 0 then
  some ((-5), μ)
  else
    bnd (mst μ 24 1 (Int.tmod (w32 ((μ 24 1) + 4)) 5)) fun μ1 =>
    bnd (mst μ1 24 2 (w32 ((μ1 24 2) - 1))) fun μ2 =>
    (xh_takeBack μ2).bind fun μ3 =>
    some ((μ3 24 2), μ3)
noncomputable def xx_undo (μ : Mem) : Option (Int × Mem) :=
  (xh_stepBack μ).bind fun p1 =>
  some (p1.1, p1.2)
noncomputable def xx_waiting_32 (s0 : Int) (μ : Mem) : Option Int :=
  some (s0)
noncomputable def xx_waiting (a1 : Int) (μ : Mem) : Option Int :=
  if 0 ≤ a1 then
    if (μ 10 8) ≤ a1 then
      xx_waiting_32 (-5) μ
    else
    (aget μ 15 8 a1).bind fun v1 =>
    xx_waiting_32 v1 μ
  else
  some ((-2))
noncomputable def xa_welcome (a1 : Int) (μ : Mem) : Option (Int × Mem) :=
  (xx_isMix a1).bind fun v1 =>
  if v1 = 0 then
  some ((-2), μ)
  else
    if (μ 10 8) < 8 then
      (aput μ 15 8 (μ 10 8) a1).bind fun μ2 =>
      bnd (mst μ2 10 8 (w32 ((μ2 10 8) + 1))) fun μ3 =>
      some ((μ3 10 8), μ3)
    else
    some ((-3), μ)
noncomputable def xx_want (a1 : Int) (μ : Mem) : Option (Int × Mem) :=
  (xh_prepare μ).bind fun μ1 =>
  (xa_welcome a1 μ1).bind fun p2 =>
  (xx_ended p2.1 p2.2).bind fun p3 =>
  some (p3.1, p3.2)
