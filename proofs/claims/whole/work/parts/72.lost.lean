/-! lost: a double that is never a NaN -/
theorem vf_div {a b : Int32} (h : b ≠ 0) : vf_n64 (FP.ddiv (FP.i2d a) (FP.i2d b)) ∧ FP.Core.dIsNaN (FP.ddiv (FP.i2d a) (FP.i2d b)) = false := by
  have h1 : FP.Core.dIsNaN (FP.Core.ddiv (FP.Core.i2d a) (FP.Core.i2d b)) = false := FP.Core.ddiv_out (FP.Core.i2d_fin a).notNaN (FP.Core.i2d_fin b) (fun z => FP.Core.i2d_ne_zero h ((FP.Core.zero_bits2 _).mp z))
  refine ⟨?_, h1⟩
  have h2 := mt (FP.Core.isNaN_bits (FP.Core.ddiv (FP.Core.i2d a) (FP.Core.i2d b))).mpr (by rw [h1]; decide)
  show (FP.Core.ddiv (FP.Core.i2d a) (FP.Core.i2d b)) &&& 0x7fffffffffffffff ≤ 0x7ff0000000000000
  rw [UInt64.le_iff_toNat_le, UInt64.toNat_and, show (0x7fffffffffffffff : UInt64).toNat = 2 ^ 63 - 1 from rfl, Nat.and_two_pow_sub_one_eq_mod, show (0x7ff0000000000000 : UInt64).toNat = 9218868437227405312 from rfl]
  omega
noncomputable def lostV (a b : Int) : UInt64 := if b = 0 then FP.dconst0 else FP.ddiv (FP.i2d (Int32.ofInt a)) (FP.i2d (Int32.ofInt b))
theorem lostV_cmp (a : Int) {b : Int} (hb : inR b) : FP.dcmp (lostV a b) (lostV a b) = some .eq := by
  unfold lostV
  by_cases h : b = 0
  · rw [if_pos h]
    exact FP.Core.dcmp_self ((FP.Core.ne_nan _).mpr (by decide))
  · rw [if_neg h]
    refine FP.Core.dcmp_self ((FP.Core.notNaN_iff _).mp (vf_div (fun z => h ?_)).2)
    exact (oi_inj hb (by decide : inR 0)).mp z
/-- the contract of a method that answers a double and changes nothing -/
def GMd (sh : List Descr) (l : Launch) (D : va_G) (ad : Nat → Nat) (ca : Nat → ClassId) (Y : MR) (as : List PV) (μ : Mem) (x : UInt64) : Prop :=
  ∀ sz : Nat, Met l Y.1 (wsY Y) (rmY Y) (Pcc sh D ad ca as μ sz) (va_Qd (fun v (_ : Unit) => v = x) (fun _ t => WB sh D ad ca μ (va_A (wd sh ad ca μ) sz) t) (va_A (wd sh ad ca μ) sz)) 0 0 (va_A (wd sh ad ca μ) sz)
theorem wd_rf {ad : Nat → Nat} {μ : Nat → Int} {fs : List (Option Nat)} {j : Nat} {r : Option Nat} (hf : fs[j]? = some r) : (fs.mapIdx (fv ad μ))[j]? = some (fv ad μ j r) := by rw [List.getElem?_mapIdx, hf]; rfl
def YX8_lost : MR := (yX8_lost, cX8_lost, 1, some .double, 0, 0)
def YX7_lost : MR := (yX7_lost, cX7_lost, 2, some .double, 0, 0)
set_option maxHeartbeats 1000000 in
theorem e_lostM {l : Launch} {D : va_G} {ad : Nat → Nat} {ca : Nat → ClassId} {μ : Mem} : GMd shM l D ad ca YX8_lost [.inr 0] μ (lostV (μ 1 53) (μ 1 52)) := by
  intro sz
  refine Met.ofW (cc := cX8_lost) (maxL := 1) (ret := some .double) (by decide) rfl ?_
  intro p e s m args below meth c s₁ B hml hv
  obtain ⟨rfl, hsz, hP, hK, hD0, hSF, hM, hR⟩ := hv
  have hx := B.exec
  have hb := B.bytes
  have hr := B.returns
  have hts0 := atoms_spec (ws := wsY YX8_lost) B.pre
  have hts : ∀ w ∈ WS, w.before (([.inr 0] : List PV).map (cv ad)).toArray s = true := fun w hw => hts0 w (List.mem_cons_of_mem _ hw)
  have hown : s.vm.findClass RX8 = some m.cls := findClass_of_methodNamed B.named
  have hlocks := B.notSynchronized
  subst hsz
  have hD := hD0.self (sz := s.heap.size)
  have hS : va_S (va_A (wd shM ad ca μ) s.heap.size) s.heap s.heap [] := va_S.rf
  have hl := lv_entry (([.inr 0] : List PV).map (cv ad)) (n := 1) (Nat.le_of_ble_eq_true rfl)
  rw [lg_entry_eq]
  generalize (lg_sl (([.inr 0] : List PV).map (cv ad)) ++ List.replicate (1 - (lg_sl (([.inr 0] : List PV).map (cv ad))).length) Slot.unset).toArray = ls at hl ⊢
  have hl : lv_has ls 1 [(0, .ref (ad 0))] := hl
  refine lv_aload_n hx hb dX8_lost_0 rfl (lv_at hl 0 rfl) ?_
  refine va_get (D := D) hx hb (Ts := WS) hts ck8.2.1 hown hK hP 0 (wd_get shM_0) ck8.1 0 (by decide) (hts _ q838) (fun _ h => h) (v := .ref (ad 1)) (wd_rf (r := some 1) rfl) dX8_lost_1 ?_
  refine lv_bipush (v := 52) hx hb dX8_lost_4 (by decide) ?_
  refine va_iald hx hb hK hP 1 0 (wd_get shM_1) rfl (vin_of (i := 52) (by decide) (by decide) (by decide)) dX8_lost_6 ?_
  refine W.eq (g2 := F0 m 7 ls [.int (Int32.ofInt (μ 1 52))]) rfl ?_
  refine lv_if_ne (tgt := 14) hx hb dX8_lost_7 (by decide) (fun hv => ?_) (fun hv => ?_)
  · have hne : μ 1 52 ≠ 0 := fun z => hv (by rw [z]; rfl)
    refine lv_aload_n hx hb dX8_lost_14 rfl (lv_at hl 0 rfl) ?_
    refine va_get (D := D) hx hb (Ts := WS) hts ck8.2.1 hown hK hP 0 (wd_get shM_0) ck8.1 0 (by decide) (hts _ q838) (fun _ h => h) (v := .ref (ad 1)) (wd_rf (r := some 1) rfl) dX8_lost_15 ?_
    refine lv_bipush (v := 53) hx hb dX8_lost_18 (by decide) ?_
    refine va_iald hx hb hK hP 1 0 (wd_get shM_1) rfl (vin_of (i := 53) (by decide) (by decide) (by decide)) dX8_lost_20 ?_
    refine W.eq (g2 := F0 m 21 ls [.int (Int32.ofInt (μ 1 53))]) rfl ?_
    refine lv_i2d hx hb dX8_lost_21 ?_
    refine lv_aload_n hx hb dX8_lost_22 rfl (lv_at hl 0 rfl) ?_
    refine va_get (D := D) hx hb (Ts := WS) hts ck8.2.1 hown hK hP 0 (wd_get shM_0) ck8.1 0 (by decide) (hts _ q838) (fun _ h => h) (v := .ref (ad 1)) (wd_rf (r := some 1) rfl) dX8_lost_23 ?_
    refine lv_bipush (v := 52) hx hb dX8_lost_26 (by decide) ?_
    refine va_iald hx hb hK hP 1 0 (wd_get shM_1) rfl (vin_of (i := 52) (by decide) (by decide) (by decide)) dX8_lost_28 ?_
    refine W.eq (g2 := F0 m 29 ls [.int (Int32.ofInt (μ 1 52)), .double (FP.i2d (Int32.ofInt (μ 1 53)))]) rfl ?_
    refine lv_i2d hx hb dX8_lost_29 ?_
    refine lv_ddiv hx hb dX8_lost_30 (vf_div hv).1 ?_
    exact W.dret hx hb hr (fun t ht hW => ⟨⟨_, (), rfl, (by rw [lostV, if_neg hne]), by rw [ht]; exact hP, va_K.moved hW.alike hK, hD, hM⟩, hS.F ht⟩) hS.2.2 dX8_lost_31
  · have hz : μ 1 52 = 0 := (oi_inj (hM 1 52) (by decide : inR 0)).mp hv
    refine lv_dconst0 hx hb dX8_lost_10 ?_
    refine lv_goto (tgt := 31) hx hb dX8_lost_11 (by decide) ?_
    exact W.dret hx hb hr (fun t ht hW => ⟨⟨_, (), rfl, (by rw [lostV, if_pos hz]), by rw [ht]; exact hP, va_K.moved hW.alike hK, hD, hM⟩, hS.F ht⟩) hS.2.2 dX8_lost_31
set_option maxHeartbeats 1000000 in
theorem e_lostX {l : Launch} {D : va_G} {ad : Nat → Nat} {ca : Nat → ClassId} {μ : Mem} : GMd shX l D ad ca YX7_lost [.inr 0] μ (lostV (μ 16 1) (μ 16 0)) := by
  intro sz
  refine Met.ofW (cc := cX7_lost) (maxL := 2) (ret := some .double) (by decide) rfl ?_
  intro p e s m args below meth c s₁ B hml hv
  obtain ⟨rfl, hsz, hP, hK, hD0, hSF, hM, hR⟩ := hv
  have hx := B.exec
  have hb := B.bytes
  have hr := B.returns
  have hts0 := atoms_spec (ws := wsY YX7_lost) B.pre
  have hts : ∀ w ∈ WS, w.before (([.inr 0] : List PV).map (cv ad)).toArray s = true := fun w hw => hts0 w (List.mem_cons_of_mem _ hw)
  have hown : s.vm.findClass RX7 = some m.cls := findClass_of_methodNamed B.named
  have hlocks := B.notSynchronized
  subst hsz
  have hD := hD0.self (sz := s.heap.size)
  have hS : va_S (va_A (wd shX ad ca μ) s.heap.size) s.heap s.heap [] := va_S.rf
  have hl := lv_entry (([.inr 0] : List PV).map (cv ad)) (n := 2) (Nat.le_of_ble_eq_true rfl)
  rw [lg_entry_eq]
  generalize (lg_sl (([.inr 0] : List PV).map (cv ad)) ++ List.replicate (2 - (lg_sl (([.inr 0] : List PV).map (cv ad))).length) Slot.unset).toArray = ls at hl ⊢
  have hl : lv_has ls 2 [(0, .ref (ad 0))] := hl
  refine lv_aload_n hx hb dX7_lost_0 rfl (lv_at hl 0 rfl) ?_
  refine va_get (D := D) hx hb (Ts := WS) hts ck7.2.1 hown hK hP 0 (wd_get shX_0) ck7.1 2 (by decide) (hts _ q288) (fun _ h => h) (v := .ref (ad 10)) (wd_rf (r := some 10) rfl) dX7_lost_1 ?_
  refine va_getN (D := D) hx hb (Ts := WS) hts ck4.2.1 hown hK hP 10 (wd_get shX_10) ck4.1 9 (by decide) (va_Nw.use rfl (hSF.2.2.2.2.2.2 _ q171)) (fun _ h => h) (v := .ref (ad 16)) (wd_rf (r := some 16) rfl) dX7_lost_4 ?_
  refine lv_iconst (v := 0) hx hb dX7_lost_7 (by decide) ?_
  refine va_iald hx hb hK hP 16 0 (wd_get shX_16) rfl (vin_of (i := 0) (by decide) (by decide) (by decide)) dX7_lost_8 ?_
  refine W.eq (g2 := F0 m 9 ls [.int (Int32.ofInt (μ 16 0))]) rfl ?_
  refine lv_istore_n (lv' := [(1, .int (Int32.ofInt (μ 16 0))), (0, .ref (ad 0))]) hx hb dX7_lost_9 rfl hl (by decide) rfl (fun ls hl => ?_)
  refine lv_iload_n hx hb dX7_lost_10 rfl (lv_at hl 0 rfl) ?_
  refine lv_if_ne (tgt := 16) hx hb dX7_lost_11 (by decide) (fun hv => ?_) (fun hv => ?_)
  · have hne : μ 16 0 ≠ 0 := fun z => hv (by rw [z]; rfl)
    refine lv_aload_n hx hb dX7_lost_16 rfl (lv_at hl 1 rfl) ?_
    refine va_get (D := D) hx hb (Ts := WS) hts ck7.2.1 hown hK hP 0 (wd_get shX_0) ck7.1 2 (by decide) (hts _ q288) (fun _ h => h) (v := .ref (ad 10)) (wd_rf (r := some 10) rfl) dX7_lost_17 ?_
    refine va_getN (D := D) hx hb (Ts := WS) hts ck4.2.1 hown hK hP 10 (wd_get shX_10) ck4.1 9 (by decide) (va_Nw.use rfl (hSF.2.2.2.2.2.2 _ q171)) (fun _ h => h) (v := .ref (ad 16)) (wd_rf (r := some 16) rfl) dX7_lost_20 ?_
    refine lv_iconst (v := 1) hx hb dX7_lost_23 (by decide) ?_
    refine va_iald hx hb hK hP 16 0 (wd_get shX_16) rfl (vin_of (i := 1) (by decide) (by decide) (by decide)) dX7_lost_24 ?_
    refine W.eq (g2 := F0 m 25 ls [.int (Int32.ofInt (μ 16 1))]) rfl ?_
    refine lv_i2d hx hb dX7_lost_25 ?_
    refine lv_iload_n hx hb dX7_lost_26 rfl (lv_at hl 0 rfl) ?_
    refine lv_i2d hx hb dX7_lost_27 ?_
    refine lv_ddiv hx hb dX7_lost_28 (vf_div hv).1 ?_
    exact W.dret hx hb hr (fun t ht hW => ⟨⟨_, (), rfl, (by rw [lostV, if_neg hne]), by rw [ht]; exact hP, va_K.moved hW.alike hK, hD, hM⟩, hS.F ht⟩) hS.2.2 dX7_lost_29
  · have hz : μ 16 0 = 0 := (oi_inj (hM 16 0) (by decide : inR 0)).mp hv
    refine lv_dconst0 hx hb dX7_lost_14 ?_
    exact W.dret hx hb hr (fun t ht hW => ⟨⟨_, (), rfl, (by rw [lostV, if_pos hz]), by rw [ht]; exact hP, va_K.moved hW.alike hK, hD, hM⟩, hS.F ht⟩) hS.2.2 dX7_lost_15
/-- the same double of both -/
theorem lost_same {μ ν : Mem} (X : XI ν μ) : lostV (ν 16 1) (ν 16 0) = lostV (μ 1 53) (μ 1 52) := by
  have h := X.1.2.2.2.2.2.2.2.2
  rw [h 1 (by omega), h 0 (by omega)]
