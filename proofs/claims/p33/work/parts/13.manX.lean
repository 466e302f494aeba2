def acopy (μ : Mem) (k0 k1 n0 n1 : Nat) (sp dp n : Int) : Option Mem := if 0 ≤ sp ∧ 0 ≤ dp ∧ 0 ≤ n ∧ sp + n ≤ (n0 : Int) ∧ dp + n ≤ (n1 : Int) then some (mcp μ k0 k1 sp.toNat dp.toNat n.toNat) else none
theorem acopy_some {μ μ1 : Mem} {k0 k1 n0 n1 : Nat} {sp dp n : Int} (h : acopy μ k0 k1 n0 n1 sp dp n = some μ1) : (0 ≤ sp ∧ 0 ≤ dp ∧ 0 ≤ n ∧ sp + n ≤ (n0 : Int) ∧ dp + n ≤ (n1 : Int)) ∧ mcp μ k0 k1 sp.toNat dp.toNat n.toNat = μ1 := by
  unfold acopy at h
  split at h
  · exact ⟨by assumption, Option.some.inj h⟩
  · cases h
def ishr32 (x y : Int) : Int := (Int32.ofInt x >>> (Int32.ofInt y &&& 31)).toInt
section STR
variable {sh : List Descr} {l : Launch} {D : va_G} {ad : Nat → Nat} {ca : Nat → ClassId} {Y Y' : MR} {pc index : Nat} {L : List (Option PV)} {st st0 rest as : List PV} {μ μ1 μ' : Mem} {r r1 : Option PV}
theorem G.ishr {x y : Int} (d : decode Y.2.1 pc = .ok (.ishr, 1)) (k : G sh l D ad ca Y (pc + 1) L (.inl (ishr32 x y) :: st) μ r μ') : G sh l D ad ca Y pc L (.inl y :: .inl x :: st) μ r μ' :=
  fun p e s m args below meth c H ls locs A E hP hD hS hM hL hR => lv_ishr E.1 E.2.1 d (by
    have h := k p e s m args below meth c H ls locs A E hP hD hS hM hL (RS_cons (to_in _) (RS_tl (RS_tl hR)))
    simp only [List.map_cons, cv, ishr32, Int32.ofInt_toInt] at h
    exact h)
theorem G.ldcw {n : Int} (d : decode Y.2.1 pc = .ok (.ldc_w index, 3)) (hw : Cond.constant Y.1.cls index (Int32.ofInt n) ∈ WS) (hn : inR n) (k : G sh l D ad ca Y (pc + 3) L (.inl n :: st) μ r μ') : G sh l D ad ca Y pc L st μ r μ' :=
  fun p e s m args below meth c H ls locs A E hP hD hS hM hL hR => lv_ldcw E.1 E.2.1 E.2.2.2.1 (E.2.2.2.2.1 _ hw) d (k p e s m args below meth c H ls locs A E hP hD hS hM hL (RS_cons hn hR))
theorem G.alen {k n : Nat} {ti : Nat} {ty : FieldType} (hs : sh[k]? = some (.inr (.inl (ti, n)))) (ht : (tysC ca)[ti]? = some (ca ti, ty)) (hn : inR (n : Int)) (d : decode Y.2.1 pc = .ok (.arraylength, 1)) (kk : G sh l D ad ca Y (pc + 1) L (.inl (n : Int) :: st) μ r μ') : G sh l D ad ca Y pc L (.inr k :: st) μ r μ' :=
  fun p e s m args below meth c H ls locs A E hP hD hS hM hL hR => va_alen E.1 E.2.1 E.2.2.2.2.2.2.2.1 hP k ti (wd_get hs) ht (v := Int32.ofInt (n : Int)) (by show Int32.ofNat n = _; rw [Int32.ofInt_eq_ofNat]) d (kk p e s m args below meth c H ls locs A E hP hD hS hM hL (RS_cons hn (RS_tl hR)))
end STR
/-! a shop's cells, at a place; Shop.copyFrom -/
def SHPX (b : Nat) : Prop := shX[b]? = some (.inl (4, [some (b + 1), some (b + 2), none, none, some (b + 3), none, some (b + 4), some (b + 5), none, some (b + 6)])) ∧ shX[b + 1]? = some (.inr (.inl (0, 12))) ∧ shX[b + 2]? = some (.inr (.inl (0, 12))) ∧ shX[b + 3]? = some (.inr (.inl (0, 8))) ∧ shX[b + 4]? = some (.inr (.inl (0, 8))) ∧ shX[b + 5]? = some (.inr (.inl (0, 8))) ∧ shX[b + 6]? = some (.inr (.inl (0, 8)))
theorem shp_10 : SHPX 10 := ⟨rfl, rfl, rfl, rfl, rfl, rfl, rfl⟩
theorem shp_17 : SHPX 17 := ⟨rfl, rfl, rfl, rfl, rfl, rfl, rfl⟩
theorem shp_row {i : Nat} (h : i < 5) : SHPX (26 + 7 * i) := by
  rcases (show i = 0 ∨ i = 1 ∨ i = 2 ∨ i = 3 ∨ i = 4 by omega) with rfl | rfl | rfl | rfl | rfl <;> exact ⟨rfl, rfl, rfl, rfl, rfl, rfl, rfl⟩
theorem row_at {i : Nat} (h : i < 5) : [26, 33, 40, 47, 54].getD i 0 = 26 + 7 * i := by
  rcases (show i = 0 ∨ i = 1 ∨ i = 2 ∨ i = 3 ∨ i = 4 by omega) with rfl | rfl | rfl | rfl | rfl <;> rfl
def stp (t o j : Nat) (μ : Mem) : Mem := mst μ t j (μ o j)
def xs_copyFrom (t o : Nat) (μ : Mem) : Option Mem := some (mcp (stp t o 8 (mcp (mcp (stp t o 5 (mcp (stp t o 3 (stp t o 2 (mcp (mcp μ (o + 1) (t + 1) 0 0 12) (o + 2) (t + 2) 0 0 12))) (o + 3) (t + 3) 0 0 8)) (o + 4) (t + 4) 0 0 8) (o + 5) (t + 5) 0 0 8)) (o + 6) (t + 6) 0 0 8)
def xh_prepare (μ : Mem) : Option Mem := if 0 ≤ μ 24 1 ∧ μ 24 1 < 5 then xs_copyFrom (26 + 7 * (μ 24 1).toNat) 10 μ else none
def xh_takeBack (μ : Mem) : Option Mem := if 0 ≤ μ 24 1 ∧ μ 24 1 < 5 then xs_copyFrom 10 (26 + 7 * (μ 24 1).toNat) μ else none
section CPY
variable {l : Launch} {D : va_G} {ad : Nat → Nat} {ca : Nat → ClassId}
set_option maxRecDepth 100000 in
theorem e_xs_copyFrom {t o : Nat} (ht : SHPX t) (ho : SHPX o) {μ : Mem} {res : Mem} (h : xs_copyFrom t o μ = some res) : GM shX l D ad ca YX4_copyFrom [.inr t, .inr o] μ none res := by
  obtain ⟨ht0, ht1, ht2, ht3, ht4, ht5, ht6⟩ := ht
  obtain ⟨ho0, ho1, ho2, ho3, ho4, ho5, ho6⟩ := ho
  refine GM.of (L := [some (.inr t), some (.inr o)]) (by decide +kernel) rfl (Nat.le_of_ble_eq_true rfl) ?_
  rw [xs_copyFrom] at h
  cases h
  refine G.aload_n (i := 1) dX4_copyFrom_0 rfl rfl ?_
  refine G.getR ck4 ho0 0 rfl (by decide) q94 dX4_copyFrom_1 ?_
  refine G.iconst dX4_copyFrom_4 ki_0 ?_
  refine G.aload_n (i := 0) dX4_copyFrom_5 rfl rfl ?_
  refine G.getR ck4 ht0 0 rfl (by decide) q94 dX4_copyFrom_6 ?_
  refine G.iconst dX4_copyFrom_9 ki_0 ?_
  refine G.bipush dX4_copyFrom_10 kb_12 ?_
  refine G.copy q368 q282 q281 q29 ho1 ht1 (by decide) (by decide) (by decide) (by decide) (by decide) (by decide) (by decide) dX4_copyFrom_12 ?_
  refine G.aload_n (i := 1) dX4_copyFrom_15 rfl rfl ?_
  refine G.getR ck4 ho0 1 rfl (by decide) q96 dX4_copyFrom_16 ?_
  refine G.iconst dX4_copyFrom_19 ki_0 ?_
  refine G.aload_n (i := 0) dX4_copyFrom_20 rfl rfl ?_
  refine G.getR ck4 ht0 1 rfl (by decide) q96 dX4_copyFrom_21 ?_
  refine G.iconst dX4_copyFrom_24 ki_0 ?_
  refine G.bipush dX4_copyFrom_25 kb_12 ?_
  refine G.copy q368 q282 q281 q29 ho2 ht2 (by decide) (by decide) (by decide) (by decide) (by decide) (by decide) (by decide) dX4_copyFrom_27 ?_
  refine G.aload_n (i := 0) dX4_copyFrom_30 rfl rfl ?_
  refine G.aload_n (i := 1) dX4_copyFrom_31 rfl rfl ?_
  refine G.getI ck4 ho0 2 rfl (by decide) q101 dX4_copyFrom_32 ?_
  refine G.putI ck4 ht0 2 rfl (by decide) q101 rfl rfl rfl dX4_copyFrom_35 ?_
  refine G.aload_n (i := 0) dX4_copyFrom_38 rfl rfl ?_
  refine G.aload_n (i := 1) dX4_copyFrom_39 rfl rfl ?_
  refine G.getI ck4 ho0 3 rfl (by decide) q105 dX4_copyFrom_40 ?_
  refine G.putI ck4 ht0 3 rfl (by decide) q105 rfl rfl rfl dX4_copyFrom_43 ?_
  refine G.aload_n (i := 1) dX4_copyFrom_46 rfl rfl ?_
  refine G.getR ck4 ho0 4 rfl (by decide) q106 dX4_copyFrom_47 ?_
  refine G.iconst dX4_copyFrom_50 ki_0 ?_
  refine G.aload_n (i := 0) dX4_copyFrom_51 rfl rfl ?_
  refine G.getR ck4 ht0 4 rfl (by decide) q106 dX4_copyFrom_52 ?_
  refine G.iconst dX4_copyFrom_55 ki_0 ?_
  refine G.bipush dX4_copyFrom_56 kb_8 ?_
  refine G.copy q368 q282 q281 q29 ho3 ht3 (by decide) (by decide) (by decide) (by decide) (by decide) (by decide) (by decide) dX4_copyFrom_58 ?_
  refine G.aload_n (i := 0) dX4_copyFrom_61 rfl rfl ?_
  refine G.aload_n (i := 1) dX4_copyFrom_62 rfl rfl ?_
  refine G.getI ck4 ho0 5 rfl (by decide) q110 dX4_copyFrom_63 ?_
  refine G.putI ck4 ht0 5 rfl (by decide) q110 rfl rfl rfl dX4_copyFrom_66 ?_
  refine G.aload_n (i := 1) dX4_copyFrom_69 rfl rfl ?_
  refine G.getR ck4 ho0 6 rfl (by decide) q114 dX4_copyFrom_70 ?_
  refine G.iconst dX4_copyFrom_73 ki_0 ?_
  refine G.aload_n (i := 0) dX4_copyFrom_74 rfl rfl ?_
  refine G.getR ck4 ht0 6 rfl (by decide) q114 dX4_copyFrom_75 ?_
  refine G.iconst dX4_copyFrom_78 ki_0 ?_
  refine G.bipush dX4_copyFrom_79 kb_8 ?_
  refine G.copy q368 q282 q281 q29 ho4 ht4 (by decide) (by decide) (by decide) (by decide) (by decide) (by decide) (by decide) dX4_copyFrom_81 ?_
  refine G.aload_n (i := 1) dX4_copyFrom_84 rfl rfl ?_
  refine G.getR ck4 ho0 7 rfl (by decide) q117 dX4_copyFrom_85 ?_
  refine G.iconst dX4_copyFrom_88 ki_0 ?_
  refine G.aload_n (i := 0) dX4_copyFrom_89 rfl rfl ?_
  refine G.getR ck4 ht0 7 rfl (by decide) q117 dX4_copyFrom_90 ?_
  refine G.iconst dX4_copyFrom_93 ki_0 ?_
  refine G.bipush dX4_copyFrom_94 kb_8 ?_
  refine G.copy q368 q282 q281 q29 ho5 ht5 (by decide) (by decide) (by decide) (by decide) (by decide) (by decide) (by decide) dX4_copyFrom_96 ?_
  refine G.aload_n (i := 0) dX4_copyFrom_99 rfl rfl ?_
  refine G.aload_n (i := 1) dX4_copyFrom_100 rfl rfl ?_
  refine G.getI ck4 ho0 8 rfl (by decide) q120 dX4_copyFrom_101 ?_
  refine G.putI ck4 ht0 8 rfl (by decide) q120 rfl rfl rfl dX4_copyFrom_104 ?_
  refine G.aload_n (i := 1) dX4_copyFrom_107 rfl rfl ?_
  refine G.getR ck4 ho0 9 rfl (by decide) q123 dX4_copyFrom_108 ?_
  refine G.iconst dX4_copyFrom_111 ki_0 ?_
  refine G.aload_n (i := 0) dX4_copyFrom_112 rfl rfl ?_
  refine G.getR ck4 ht0 9 rfl (by decide) q123 dX4_copyFrom_113 ?_
  refine G.iconst dX4_copyFrom_116 ki_0 ?_
  refine G.bipush dX4_copyFrom_117 kb_8 ?_
  refine G.copy q368 q282 q281 q29 ho6 ht6 (by decide) (by decide) (by decide) (by decide) (by decide) (by decide) (by decide) dX4_copyFrom_119 ?_
  exact G.vret dX4_copyFrom_122 rfl
theorem e_xh_prepare {μ res : Mem} (h : xh_prepare μ = some res) : GM shX l D ad ca YX2_prepare [.inr 24, .inr 10] μ none res := by
  rw [xh_prepare] at h
  obtain ⟨hz, h⟩ := ite_yn h
  have hi : (μ 24 1).toNat < 5 := by omega
  refine GM.of (L := [some (.inr 24), some (.inr 10)]) (by decide +kernel) rfl (Nat.le_of_ble_eq_true rfl) ?_
  refine G.aload_n (i := 0) dX2_prepare_0 rfl rfl ?_
  refine G.getR ck2 shX_24 0 rfl (by decide) q156 dX2_prepare_1 ?_
  refine G.aload_n (i := 0) dX2_prepare_4 rfl rfl ?_
  refine G.getI ck2 shX_24 1 rfl (by decide) q157 dX2_prepare_5 ?_
  refine G.aald shX_25 hz dX2_prepare_8 ?_
  rw [row_at hi]
  refine G.aload_n (i := 1) dX2_prepare_9 rfl rfl ?_
  refine G.callV (as := [.inr 10]) (rest := []) (e_xs_copyFrom (shp_row hi) shp_10 h) cs_X2_prepare_X4_copyFrom ck4 (shp_row hi).1 rfl rfl (Nat.le_of_ble_eq_true rfl) q364 q365 q366 dX2_prepare_10 ?_
  exact G.vret dX2_prepare_13 rfl
theorem e_xh_takeBack {μ res : Mem} (h : xh_takeBack μ = some res) : GM shX l D ad ca YX2_takeBack [.inr 24, .inr 10] μ none res := by
  rw [xh_takeBack] at h
  obtain ⟨hz, h⟩ := ite_yn h
  have hi : (μ 24 1).toNat < 5 := by omega
  refine GM.of (L := [some (.inr 24), some (.inr 10)]) (by decide +kernel) rfl (Nat.le_of_ble_eq_true rfl) ?_
  refine G.aload_n (i := 1) dX2_takeBack_0 rfl rfl ?_
  refine G.aload_n (i := 0) dX2_takeBack_1 rfl rfl ?_
  refine G.getR ck2 shX_24 0 rfl (by decide) q156 dX2_takeBack_2 ?_
  refine G.aload_n (i := 0) dX2_takeBack_5 rfl rfl ?_
  refine G.getI ck2 shX_24 1 rfl (by decide) q157 dX2_takeBack_6 ?_
  refine G.aald shX_25 hz dX2_takeBack_9 ?_
  rw [row_at hi]
  refine G.callV (as := [.inr (26 + 7 * (μ 24 1).toNat)]) (rest := []) (e_xs_copyFrom shp_10 (shp_row hi) h) cs_X2_takeBack_X4_copyFrom ck4 shX_10 rfl rfl (Nat.le_of_ble_eq_true rfl) q364 q365 q366 dX2_takeBack_10 ?_
  exact G.vret dX2_takeBack_13 rfl
end CPY
