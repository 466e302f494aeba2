def acopy (μ : Mem) (k0 k1 n0 n1 : Nat) (sp dp n : Int) : Option Mem := if 0 ≤ sp ∧ 0 ≤ dp ∧ 0 ≤ n ∧ sp + n ≤ (n0 : Int) ∧ dp + n ≤ (n1 : Int) then some (mcp μ k0 k1 sp.toNat dp.toNat n.toNat) else none
theorem acopy_some {μ μ1 : Mem} {k0 k1 n0 n1 : Nat} {sp dp n : Int} (h : acopy μ k0 k1 n0 n1 sp dp n = some μ1) : (0 ≤ sp ∧ 0 ≤ dp ∧ 0 ≤ n ∧ sp + n ≤ (n0 : Int) ∧ dp + n ≤ (n1 : Int)) ∧ mcp μ k0 k1 sp.toNat dp.toNat n.toNat = μ1 := by
  unfold acopy at h
  split at h
  · exact ⟨by assumption, Option.some.inj h⟩
  · cases h
/-! strings' members; the reference's places 1001.. are the string constants, 1101.. their bytes -/
def jd_length (k : Nat) : Option Int := if 1001 ≤ k ∧ k < 1008 then some ((lenS.getD (k - 1001) 0 : Nat) : Int) else none
noncomputable def jd_ch (k i : Nat) : Int := nch (and32 (((bytS.getD k []).getD i 0).toInt) 255)
noncomputable def jd_charAt (k : Nat) (i : Int) : Option Int := if (1001 ≤ k ∧ k < 1008) ∧ 0 ≤ i ∧ i < ((lenS.getD (k - 1001) 0 : Nat) : Int) then some (jd_ch (k - 1001) i.toNat) else none
theorem jl_some {k : Nat} {v : Int} (h : jd_length k = some v) : ∃ i, i < 7 ∧ k = 1001 + i ∧ v = ((lenS.getD i 0 : Nat) : Int) := by
  unfold jd_length at h
  split at h
  · exact ⟨k - 1001, by omega, by omega, (Option.some.inj h).symm⟩
  · cases h
theorem jc_some {k : Nat} {x v : Int} (h : jd_charAt k x = some v) : ∃ i, i < 7 ∧ k = 1001 + i ∧ 0 ≤ x ∧ x < ((lenS.getD i 0 : Nat) : Int) ∧ v = jd_ch i x.toNat := by
  unfold jd_charAt at h
  split at h
  · exact ⟨k - 1001, by omega, by omega, by omega, by omega, (Option.some.inj h).symm⟩
  · cases h
def ishr32 (x y : Int) : Int := (Int32.ofInt x >>> (Int32.ofInt y &&& 31)).toInt
theorem lenS_in : ∀ i, i < 7 → inR ((lenS.getD i 0 : Nat) : Int) := by decide
theorem lenS_shr : ∀ i, i < 7 → ishr32 ((lenS.getD i 0 : Nat) : Int) 0 = ((lenS.getD i 0 : Nat) : Int) := by decide +kernel
section STR
variable {sh : List Descr} {l : Launch} {D : va_G} {ad : Nat → Nat} {ca : Nat → ClassId} {Y Y' : MR} {pc index : Nat} {L : List (Option PV)} {st st0 rest as : List PV} {μ μ1 μ' : Mem} {r r1 : Option PV}
theorem G.ishr {x y : Int} (d : decode Y.2.1 pc = .ok (.ishr, 1)) (k : G sh l D ad ca Y (pc + 1) L (.inl (ishr32 x y) :: st) μ r μ') : G sh l D ad ca Y pc L (.inl y :: .inl x :: st) μ r μ' :=
  fun p e s m args below meth c H ls locs A E hP hD hS hM hL hR => lv_ishr E.1 E.2.1 d (by
    have h := k p e s m args below meth c H ls locs A E hP hD hS hM hL (RS_cons (to_in _) (RS_tl (RS_tl hR)))
    simp only [List.map_cons, cv, ishr32, Int32.ofInt_toInt] at h
    exact h)
theorem G.ldcw {n : Int} (d : decode Y.2.1 pc = .ok (.ldc_w index, 3)) (hw : Cond.constant Y.1.cls index (Int32.ofInt n) ∈ WS) (hn : inR n) (k : G sh l D ad ca Y (pc + 3) L (.inl n :: st) μ r μ') : G sh l D ad ca Y pc L st μ r μ' :=
  fun p e s m args below meth c H ls locs A E hP hD hS hM hL hR => lv_ldcw E.1 E.2.1 E.2.2.2.1 (E.2.2.2.2.1 _ hw) d (k p e s m args below meth c H ls locs A E hP hD hS hM hL (RS_cons hn hR))
theorem G.alen {k n : Nat} {ti : Nat} {ty : FieldType} (hs : sh[k]? = some (.inr (.inl (ti, n)))) (ht : (tysC ca)[ti]? = some (ca ti, ty)) (hn : inR (n : Int)) (d : decode Y.2.1 pc = .ok (.arraylength, 1)) (kk : G sh l D ad ca Y (pc + 1) L (.inl (n : Int) :: st) μ r μ') : G sh l D ad ca Y pc L (.inr k :: st) μ r μ' :=
  fun p e s m args below meth c H ls locs A E hP hD hS hM hL hR => va_alen E.1 E.2.1 E.2.2.2.2.2.2.2.1 hP k ti (wd_get hs) ht (v := Int32.ofInt (n : Int)) (by show Int32.ofNat n = _; rw [Int32.ofInt_eq_ofNat]) d (kk p e s m args below meth c H ls locs A E hP hD hS hM hL (RS_cons hn (RS_tl hR)))
theorem G.slen {i : Nat} (hi : i < 7) (d : decode Y.2.1 pc = .ok (.arraylength, 1)) (kk : G sh l D ad ca Y (pc + 1) L (.inl ((lenS.getD i 0 : Nat) : Int) :: st) μ r μ') : G sh l D ad ca Y pc L (.inr (1101 + i) :: st) μ r μ' :=
  fun p e s m args below meth c H ls locs A E hP hD hS hM hL hR => va_tlen E.1 E.2.1 (E.2.2.2.2.2.2.2.2.1.2.2.1.1 i hi).2.2.2 hS (v := Int32.ofInt ((lenS.getD i 0 : Nat) : Int)) (by rw [Int32.ofInt_eq_ofNat]) d (kk p e s m args below meth c H ls locs A E hP hD hS hM hL (RS_cons (lenS_in i hi) (RS_tl hR)))
theorem G.sbyte {i : Nat} {x : Int} (hi : i < 7) (h : 0 ≤ x ∧ x < ((lenS.getD i 0 : Nat) : Int)) (d : decode Y.2.1 pc = .ok (.baload, 1)) (kk : G sh l D ad ca Y (pc + 1) L (.inl (((bytS.getD i []).getD x.toNat 0).toInt) :: st) μ r μ') : G sh l D ad ca Y pc L (.inl x :: .inr (1101 + i) :: st) μ r μ' :=
  fun p e s m args below meth c H ls locs A E hP hD hS hM hL hR => va_tb E.1 E.2.1 (E.2.2.2.2.2.2.2.2.1.2.2.1.1 i hi).2.2.2 hS (vin_of (RS_hd hR) h.1 h.2) (v := .int (Int32.ofInt (((bytS.getD i []).getD x.toNat 0).toInt))) (by
    show Value.int ((bytS.getD i []).getD (Int32.ofInt x).toNatClampNeg 0) = _
    rw [oi_clamp (RS_hd hR), Int32.ofInt_toInt]) d (kk p e s m args below meth c H ls locs A E hP hD hS hM hL (RS_cons (to_in _) (RS_tl (RS_tl hR))))
theorem G.svalue {i : Nat} (hi : i < 7) (hl : Cond.fieldLink Y.1.cls index "java/lang/String" "value" "[B" ∈ WS) (d : decode Y.2.1 pc = .ok (.getfield index, 3)) (kk : G sh l D ad ca Y (pc + 3) L (.inr (1101 + i) :: st) μ r μ') : G sh l D ad ca Y pc L (.inr (1001 + i) :: st) μ r μ' :=
  fun p e s m args below meth c H ls locs A E hP hD hS hM hL hR => vk_getf E.1 E.2.1 (E.2.2.2.2.2.2.2.2.1.2.2.1.1 i hi).2.2.1 hS E.2.2.2.1 (E.2.2.2.2.1 _ hl) (fun _ h => h) d (kk p e s m args below meth c H ls locs A E hP hD hS hM hL (RS_cons trivial (RS_tl hR)))
theorem G.scoder {i : Nat} (hi : i < 7) (hl : Cond.fieldLink Y.1.cls index "java/lang/String" "coder" "B" ∈ WS) (d : decode Y.2.1 pc = .ok (.getfield index, 3)) (kk : G sh l D ad ca Y (pc + 3) L (.inl 0 :: st) μ r μ') : G sh l D ad ca Y pc L (.inr (1001 + i) :: st) μ r μ' :=
  fun p e s m args below meth c H ls locs A E hP hD hS hM hL hR => vk_getf E.1 E.2.1 (E.2.2.2.2.2.2.2.2.1.2.2.1.1 i hi).2.1 hS E.2.2.2.1 (E.2.2.2.2.1 _ hl) (fun _ h => h) d (kk p e s m args below meth c H ls locs A E hP hD hS hM hL (RS_cons (by show inR 0; decide) (RS_tl hR)))
theorem G.scompact (hl : Cond.fieldLink Y.1.cls index "java/lang/String" "COMPACT_STRINGS" "Z" ∈ WS) (d : decode Y.2.1 pc = .ok (.getstatic index, 3)) (kk : G sh l D ad ca Y (pc + 3) L (.inl 1 :: st) μ r μ') : G sh l D ad ca Y pc L st μ r μ' :=
  fun p e s m args below meth c H ls locs A E hP hD hS hM hL hR => va_gets E.1 E.2.1 E.2.2.2.2.2.2.2.2.1.2.2.2.2.1 hS E.2.2.2.1 (E.2.2.2.2.1 _ hl) (fun _ h => h) d (kk p e s m args below meth c H ls locs A E hP hD hS hM hL (RS_cons (by show inR 1; decide) hR))
/-- a call of a member of a string constant -/
theorem G.callT {k : Nat} (hM : GM sh l D ad ca Y' (.inr k :: as) μ r1 μ1) (cs : CS Y Y' as.length) (hk : ∃ i, i < 7 ∧ k = 1001 + i) (hC : Y'.1.cls = "java/lang/String") (hst : st0 = as.reverse ++ .inr k :: rest) (hlen : rest.length ≤ 8) (wl : Cond.methodLink Y.1.cls index Y'.1 ∈ WS) (wi : Cond.instanceMethod Y'.1 ∈ WS) (wse : Cond.selects Y'.1.cls Y'.1 Y'.1 ∈ WS) (d : decode Y.2.1 pc = .ok (.invokevirtual index, 3))
    (kk : G sh l D ad ca Y (pc + 3) L (r1.toList ++ rest) μ1 r μ') : G sh l D ad ca Y pc L st0 μ r μ' :=
  fun p e s m args below meth c H ls locs A E hP hD hS hMm hL hR => by
    obtain ⟨i, hi, rfl⟩ := hk
    obtain ⟨w1, w2, w3, w4⟩ := cs
    refine G.back (a := (Value.ref (ad (1001 + i)) :: as.map (cv ad)).toArray) E hP hD hS hL (RS_tl (RS_app (hst ▸ hR))) ?_ kk
    refine va_runV (Ts := WS) (C := Y'.1.cls) (b := ad (1001 + i)) (As := as.map (cv ad)) (rest := rest.map (cv ad)) (n := as.length) (own := Y.1.cls) (index := index) (nL := Y.2.2.1) ⟨E.1, E.2.1, E.2.2.1, E.2.2.2.1, E.2.2.2.2.1⟩ (hM H.size)
      (cwV as.length E.2.2.2.2.1 (gin_ws (fun w hw => ?_)) rfl rfl rfl ⟨rfl, w3⟩ w4) ⟨Pcc_blind _ _ _ _ _ _ _, ?_, fun U hU hW => pcc_of (as := .inr (1001 + i) :: as) hU hW hP E.2.2.2.2.2.2.2.1 hD hS E.2.2.2.2.2.2.2.2.1 E.2.2.2.2.2.2.2.2.2 hMm (RS_cons trivial (RS_rev (hst ▸ hR)))⟩ rfl (by simp) hL.2.1.1 (by rw [hst, List.map_append, List.map_reverse]; rfl) (lv_room (by rw [cat_sum]; exact hlen)) d ⟨Nat.le_refl _, Nat.le_refl _⟩
    · unfold wsV at hw
      rcases List.mem_append.mp hw with h | h
      · simp only [List.mem_cons, List.not_mem_nil, or_false] at h
        rcases h with rfl | rfl | rfl | rfl
        · exact wl
        · exact wi
        · exact wse
        · exact w1
      · exact ws_sub w2 w h
    · rw [hC]
      exact vk_recv (adK := fun i => ad (1001 + i)) E.2.2.2.2.2.2.2.2.1.2.2.1 hi hS
end STR
/-- jdk Preconditions.checkIndex on an index that is inside; its third argument, null or not, isn't looked at -/
theorem mt_checkIndex {sh : List Descr} {D : va_G} {ad : Nat → Nat} {ca : Nat → ClassId} (l : Launch) (i n : Int) (v : Value) (hv : v.category = 1) (h0 : 0 ≤ i) (hn : i < n) (hi : inR i) (hnn : inR n) (μ : Mem) (sz : Nat) :
    Met l YJ3_checkIndex_8e157.1 (wsY YJ3_checkIndex_8e157) (rmY YJ3_checkIndex_8e157) (va_Pc [.int (Int32.ofInt i), .int (Int32.ofInt n), v] (fun U => U.heap.size = sz ∧ va_P D vwCl (wd sh ad ca μ) U.heap ∧ va_K D vwCl (tysC ca) U ∧ va_D (fun _ => True) (wd sh ad ca μ) ∧ RM μ)) (QQ sh D ad ca (some (.inl i)) μ (va_A (wd sh ad ca μ) sz)) 0 0 (va_A (wd sh ad ca μ) sz) := by
  refine Met.ofW (cc := cJ3_checkIndex_8e157) (maxL := 3) (ret := some .int) (by decide +kernel) rfl ?_
  intro p e s m args below meth c s₁ B hml hvv
  obtain ⟨rfl, hsz, hP, hK, hD0, hM⟩ := hvv
  have hx := B.exec
  have hb := B.bytes
  have hr := B.returns
  have hlocks := B.notSynchronized
  subst hsz
  have hD := hD0.self (sz := s.heap.size)
  have hl := lv_entry ([.int (Int32.ofInt i), .int (Int32.ofInt n), v]) (n := 3) (by cases v <;> first | (simp [lg_sl, Value.category]; done) | (cases hv))
  rw [lg_entry_eq]
  generalize (lg_sl ([.int (Int32.ofInt i), .int (Int32.ofInt n), v]) ++ List.replicate (3 - (lg_sl ([.int (Int32.ofInt i), .int (Int32.ofInt n), v])).length) Slot.unset).toArray = ls at hl ⊢
  refine lv_iload_n hx hb dJ3_checkIndex_8e157_0 rfl (lv_at hl 0 rfl) ?_
  refine lv_if_lt (tgt := 9) hx hb dJ3_checkIndex_8e157_1 (by decide) (fun h => ?_) (fun _ => ?_)
  · exact absurd ((oi_lt hi (by decide : inR 0)).mp h) (by omega)
  refine lv_iload_n hx hb dJ3_checkIndex_8e157_4 rfl (lv_at hl 0 rfl) ?_
  refine lv_iload_n hx hb dJ3_checkIndex_8e157_5 rfl (lv_at hl 1 rfl) ?_
  refine lv_icmp_lt (tgt := 16) hx hb dJ3_checkIndex_8e157_6 (by decide) (fun _ => ?_) (fun h => absurd ((oi_lt hi hnn).mpr hn) h)
  refine lv_iload_n hx hb dJ3_checkIndex_8e157_16 rfl (lv_at hl 0 rfl) ?_
  exact W.iret hx hb hr (fun t ht hW => ⟨⟨Int32.ofInt i, (), rfl, ⟨rfl, hi⟩, by rw [ht]; exact hP, va_K.moved hW.alike hK, hD, hM⟩, va_S.rf.F ht⟩) (by intro q hq; cases hq) dJ3_checkIndex_8e157_17 hlocks
section STR2
variable {l : Launch} {D : va_G} {ad : Nat → Nat} {ca : Nat → ClassId} {sh : List Descr}
theorem G.front {Y : MR} {pc : Nat} {L : List (Option PV)} {rest : List PV} {μ μ1 μ' : Mem} {r r1 : Option PV} {p : Program} {e : Env} {s : State} {m : MethodId} {args : Array Value} {below : List Frame} {meth : Method} {c : Code} {H : Heap} {ls : Array Slot} {locs : List Loc} {A : Nat → Prop} {a : Array Value} {stv : List Value}
    (E : Ent ad D ca Y p s m args meth c A) (hP : va_P D vwCl (wd sh ad ca μ) H) (hD : va_D A (wd sh ad ca μ)) (hS : va_S A s.heap H locs) (hL : Lv ad Y.2.2.1 L ls) (hR : RS rest)
    (hr : va_Run p l e (rmY Y) s m args below meth c H locs 0 0 0 0 (F0 m pc ls stv) (rest.map (cv ad)) (QQ sh D ad ca r1 μ1 (va_A (wd sh ad ca μ) H.size) a) (va_A (wd sh ad ca μ) H.size))
    (kk : G sh l D ad ca Y (pc + 3) L (r1.toList ++ rest) μ1 r μ') : W p l e (rmY Y) s m args below meth c H locs 0 0 (MQ below (QQ sh D ad ca r μ' A) args s 0 0 A) (F0 m pc ls stv) := by
  have hAA := va_A_wd (ca := ca) (μ := μ) hD hS E.2.2.2.2.2.2.2.2.2
  match r1, hr, kk with
  | none, hr, kk =>
    refine va_callv (a := a) hr hS (fun q _ h => hAA q h) hAA (fun u t H1 locs1 ht hvm _ hB _ _ hS1 => ?_)
    subst ht
    exact kk p e s m args below meth c t.heap ls locs1 A E hB.1 (va_D_mem (μ := μ) hB.2.2.1 hAA) hS1 hB.2.2.2 hL hR
  | some (.inl x), hr, kk =>
    refine va_calli (a := a) hr hS (fun q _ h => hAA q h) hAA (fun v u t H1 locs1 ht hvm hp hB _ _ hS1 => ?_)
    subst ht
    obtain ⟨rfl, hx⟩ := hp
    exact kk p e s m args below meth c t.heap ls locs1 A E hB.1 (va_D_mem (μ := μ) hB.2.2.1 hAA) hS1 hB.2.2.2 hL (RS_cons hx hR)
  | some (.inr k), hr, kk =>
    refine va_callr (a := a) hr hS (fun q _ h => hAA q h) hAA (fun u ra t H1 locs1 ht hvm _ hB _ _ hS1 => ?_)
    subst ht
    obtain ⟨rfl, hB⟩ := hB
    exact kk p e s m args below meth c t.heap ls locs1 A E hB.1 (va_D_mem (μ := μ) hB.2.2.1 hAA) hS1 hB.2.2.2 hL (RS_cons trivial hR)
theorem sk_checkIndex {i n : Int} (h0 : 0 ≤ i) (hn : i < n) {μ : Mem} : GM sh l D ad ca YJ0_checkIndex_df160 [.inl i, .inl n] μ none μ := by
  refine GM.of (L := [some (.inl i), some (.inl n)]) (by decide +kernel) rfl (Nat.le_of_ble_eq_true rfl) ?_
  refine G.iload_n (i := 0) dJ0_checkIndex_df160_0 rfl rfl ?_
  refine G.iload_n (i := 1) dJ0_checkIndex_df160_1 rfl rfl ?_
  intro p e s m args below meth c H ls locs A E hP hD hS hM hL hR
  have hi : inR i := hL.pr (i := 0) rfl
  have hnn : inR n := hL.pr (i := 1) rfl
  have kk : ∀ v : Value, v.category = 1 → W p l e (rmY YJ0_checkIndex_df160) s m args below meth c H locs 0 0 (MQ below (QQ sh D ad ca none μ A) args s 0 0 A) (F0 m 5 ls (v :: [.int (Int32.ofInt n), .int (Int32.ofInt i)])) := by
    intro v hv
    refine G.front (a := [.int (Int32.ofInt i), .int (Int32.ofInt n), v].toArray) (rest := []) (r1 := some (.inl i)) (μ1 := μ) E hP hD hS hL RS_nil ?_ (G.pop dJ0_checkIndex_df160_8 (G.vret dJ0_checkIndex_df160_9 rfl))
    obtain ⟨w1, w2, w3, w4⟩ := cs_J0_checkIndex_df160_J3_checkIndex_8e157
    refine va_runS (Ts := WS) (As := [.int (Int32.ofInt i), .int (Int32.ofInt n), v]) (rest := []) (n := 3) (own := YJ0_checkIndex_df160.1.cls) (index := 1059) (nL := YJ0_checkIndex_df160.2.2.1) ⟨E.1, E.2.1, E.2.2.1, E.2.2.2.1, E.2.2.2.2.1⟩ (mt_checkIndex l i n v hv h0 hn hi hnn μ H.size)
      (va_cwS 3 E.2.2.2.2.1 (gin_ws (fun w hw => ?_)) rfl rfl rfl w3 w4) ⟨fun a U g mk q => by obtain ⟨q0, q1, qP, qK, qD, qM⟩ := q; exact ⟨q0, q1, qP, va_K.moved (u := U) (U := U.calling g mk a) (Vm.Alike.refl U.vm) qK, qD, qM⟩, fun U hU hW => ⟨rfl, by rw [hU], by rw [hU]; exact hP, va_K.moved hW.alike E.2.2.2.2.2.2.2.1, va_D_mem (μ := μ) hD (fun _ _ => trivial), hM⟩⟩ rfl rfl hL.2.1.1 rfl (lv_room (Nat.le_of_ble_eq_true rfl)) dJ0_checkIndex_df160_5 ⟨Nat.le_refl _, Nat.le_refl _⟩
    unfold va_wsS at hw
    rcases List.mem_append.mp hw with h | h
    · simp only [List.mem_cons, List.not_mem_nil, or_false] at h
      rcases h with rfl | rfl | rfl
      · exact q583
      · exact q584
      · exact w1
    · exact ws_sub w2 w h
  rcases E.2.2.2.2.2.2.2.2.1.2.2.2.2.2.1 with hz | ⟨t, hz⟩
  · exact va_gets E.1 E.2.1 hz hS E.2.2.2.1 (E.2.2.2.2.1 _ q581) (fun _ h => h) dJ0_checkIndex_df160_2 (kk .null rfl)
  · exact va_gets E.1 E.2.1 hz hS E.2.2.2.1 (E.2.2.2.2.1 _ q581) (fun _ h => h) dJ0_checkIndex_df160_2 (kk (.ref t) rfl)
theorem nch_nar (x : Int) : narrow .char (.int (Int32.ofInt (nch x))) = .int (Int32.ofInt (nch x)) := by
  rw [nch_def, Int32.ofInt_toInt]
  exact pk_nc _
/-- StringLatin1.charAt -/
theorem sk_latin {i : Nat} {x : Int} (hi : i < 7) (h : 0 ≤ x ∧ x < ((lenS.getD i 0 : Nat) : Int)) {μ : Mem} : GM sh l D ad ca YJ1_charAt_3b067 [.inr (1101 + i), .inl x] μ (some (.inl (jd_ch i x.toNat))) μ := by
  refine GM.of (L := [some (.inr (1101 + i)), some (.inl x)]) (by decide +kernel) rfl (Nat.le_of_ble_eq_true rfl) ?_
  refine G.iload_n (i := 1) dJ1_charAt_3b067_0 rfl rfl ?_
  refine G.aload_n (i := 0) dJ1_charAt_3b067_1 rfl rfl ?_
  refine G.slen hi dJ1_charAt_3b067_2 ?_
  refine G.callS (sk_checkIndex h.1 h.2) cs_J1_charAt_3b067_J0_checkIndex_df160 rfl (Nat.le_of_ble_eq_true rfl) q578 q579 dJ1_charAt_3b067_3 ?_
  refine G.aload_n (i := 0) dJ1_charAt_3b067_6 rfl rfl ?_
  refine G.iload_n (i := 1) dJ1_charAt_3b067_7 rfl rfl ?_
  refine G.sbyte hi h dJ1_charAt_3b067_8 ?_
  refine G.sipush dJ1_charAt_3b067_9 ks_255 ?_
  refine G.iand dJ1_charAt_3b067_12 ?_
  refine G.i2c dJ1_charAt_3b067_13 ?_
  exact G.zret .char dJ1_charAt_3b067_14 rfl (nch_nar _)
theorem sk_isLatin1 {i : Nat} (hi : i < 7) {μ : Mem} : GM sh l D ad ca YJ0_isLatin1_aae02 [.inr (1001 + i)] μ (some (.inl 1)) μ := by
  refine GM.of (L := [some (.inr (1001 + i))]) (by decide +kernel) rfl (Nat.le_of_ble_eq_true rfl) ?_
  refine G.scompact q565 dJ0_isLatin1_aae02_0 ?_
  refine G.if_eq 17 dJ0_isLatin1_aae02_3 rfl (fun c => absurd c (by decide)) (fun _ => ?_)
  refine G.aload_n (i := 0) dJ0_isLatin1_aae02_6 rfl rfl ?_
  refine G.scoder hi q1164 dJ0_isLatin1_aae02_7 ?_
  refine G.if_ne 17 dJ0_isLatin1_aae02_10 rfl (fun c => absurd rfl c) (fun _ => ?_)
  refine G.iconst dJ0_isLatin1_aae02_13 ki_1 ?_
  refine G.goto 18 dJ0_isLatin1_aae02_14 rfl ?_
  exact G.zret .boolean dJ0_isLatin1_aae02_18 rfl rfl
theorem sk_coder {i : Nat} (hi : i < 7) {μ : Mem} : GM sh l D ad ca YJ0_coder_7d493 [.inr (1001 + i)] μ (some (.inl 0)) μ := by
  refine GM.of (L := [some (.inr (1001 + i))]) (by decide +kernel) rfl (Nat.le_of_ble_eq_true rfl) ?_
  refine G.scompact q565 dJ0_coder_7d493_0 ?_
  refine G.if_eq 13 dJ0_coder_7d493_3 rfl (fun c => absurd c (by decide)) (fun _ => ?_)
  refine G.aload_n (i := 0) dJ0_coder_7d493_6 rfl rfl ?_
  refine G.scoder hi q1164 dJ0_coder_7d493_7 ?_
  refine G.goto 14 dJ0_coder_7d493_10 rfl ?_
  exact G.zret .byte dJ0_coder_7d493_14 rfl rfl
theorem e_jd_length {k : Nat} {μ : Mem} {res : Int} (h : jd_length k = some res) : GM sh l D ad ca YJ0_length_8abf5 [.inr k] μ (some (.inl res)) μ := by
  obtain ⟨i, hi, rfl, rfl⟩ := jl_some h
  refine GM.of (L := [some (.inr (1001 + i))]) (by decide +kernel) rfl (Nat.le_of_ble_eq_true rfl) ?_
  refine G.aload_n (i := 0) dJ0_length_8abf5_0 rfl rfl ?_
  refine G.svalue hi q1163 dJ0_length_8abf5_1 ?_
  refine G.slen hi dJ0_length_8abf5_4 ?_
  refine G.aload_n (i := 0) dJ0_length_8abf5_5 rfl rfl ?_
  refine G.callT (sk_coder hi) cs_J0_length_8abf5_J0_coder_7d493 ⟨i, hi, rfl⟩ rfl rfl (Nat.le_of_ble_eq_true rfl) q561 q562 q563 dJ0_length_8abf5_6 ?_
  refine G.ishr dJ0_length_8abf5_9 ?_
  rw [lenS_shr i hi]
  exact G.iret dJ0_length_8abf5_10 rfl
theorem e_jd_charAt {k : Nat} {x : Int} {μ : Mem} {res : Int} (h : jd_charAt k x = some res) : GM sh l D ad ca YJ0_charAt_5068e [.inr k, .inl x] μ (some (.inl res)) μ := by
  obtain ⟨i, hi, rfl, h0, h1, rfl⟩ := jc_some h
  refine GM.of (L := [some (.inr (1001 + i)), some (.inl x)]) (by decide +kernel) rfl (Nat.le_of_ble_eq_true rfl) ?_
  refine G.aload_n (i := 0) dJ0_charAt_5068e_0 rfl rfl ?_
  refine G.callT (sk_isLatin1 hi) cs_J0_charAt_5068e_J0_isLatin1_aae02 ⟨i, hi, rfl⟩ rfl rfl (Nat.le_of_ble_eq_true rfl) q571 q572 q573 dJ0_charAt_5068e_1 ?_
  refine G.if_eq 16 dJ0_charAt_5068e_4 rfl (fun c => absurd c (by decide)) (fun _ => ?_)
  refine G.aload_n (i := 0) dJ0_charAt_5068e_7 rfl rfl ?_
  refine G.svalue hi q1163 dJ0_charAt_5068e_8 ?_
  refine G.iload_n (i := 1) dJ0_charAt_5068e_11 rfl rfl ?_
  refine G.callS (sk_latin hi ⟨h0, h1⟩) cs_J0_charAt_5068e_J1_charAt_3b067 rfl (Nat.le_of_ble_eq_true rfl) q575 q576 dJ0_charAt_5068e_12 ?_
  exact G.zret .char dJ0_charAt_5068e_15 rfl (nch_nar _)
theorem jl_at {k : Nat} {v : Int} (h : jd_length k = some v) : ∃ i, i < 7 ∧ k = 1001 + i := by
  obtain ⟨i, hi, e, -⟩ := jl_some h
  exact ⟨i, hi, e⟩
theorem jc_at {k : Nat} {x v : Int} (h : jd_charAt k x = some v) : ∃ i, i < 7 ∧ k = 1001 + i := by
  obtain ⟨i, hi, e, -⟩ := jc_some h
  exact ⟨i, hi, e⟩
end STR2
/-! a shop's cells, at a place; Shop.copyFrom -/
def SHPX (b : Nat) : Prop := shX[b]? = some (.inl (4, [some (b + 1), some (b + 2), none, none, some (b + 3), none, some (b + 4), some (b + 5), none, some (b + 6)])) ∧ shX[b + 1]? = some (.inr (.inl (0, 12))) ∧ shX[b + 2]? = some (.inr (.inl (0, 12))) ∧ shX[b + 3]? = some (.inr (.inl (0, 8))) ∧ shX[b + 4]? = some (.inr (.inl (0, 8))) ∧ shX[b + 5]? = some (.inr (.inl (0, 8))) ∧ shX[b + 6]? = some (.inr (.inl (0, 8)))
theorem shp_10 : SHPX 10 := ⟨rfl, rfl, rfl, rfl, rfl, rfl, rfl⟩
theorem shp_17 : SHPX 17 := ⟨rfl, rfl, rfl, rfl, rfl, rfl, rfl⟩
theorem shp_row {i : Nat} (h : i < 5) : SHPX (26 + 7 * i) := by
  rcases (show i = 0 ∨ i = 1 ∨ i = 2 ∨ i = 3 ∨ i = 4 by omega) with rfl | rfl | rfl | rfl | rfl <;> exact ⟨rfl, rfl, rfl, rfl, rfl, rfl, rfl⟩
theorem row_at {i : Nat} (h : i < 5) : [26, 33, 40, 47, 54].getD i 0 = 26 + 7 * i := by
  rcases (show i = 0 ∨ i = 1 ∨ i = 2 ∨ i = 3 ∨ i = 4 by omega) with rfl | rfl | rfl | rfl | rfl <;> rfl
def stp (t o j : Nat) (μ : Mem) : Mem := mst μ t j (μ o j)
def xs_copyFrom (t o : Nat) (μ : Mem) : Option Mem := some (mcp (stp t o 8 (mcp (mcp (stp t o 5 (mcp (stp t o 3 (stp t o 2 (mcp (mcp μ (o + 1) (t + 1) 0 0 12) (o + 2) (t + 2) 0 0 12))) (o + 3) (t + 3) 0 0 8)) (o + 4) (t + 4) 0 0 8) (o + 5) (t + 5) 0 0 8)) (o + 6) (t + 6) 0 0 8)
def xh_prepare (μ : Mem) : Option Mem := if 0 ≤ μ 24 1 ∧ μ 24 1 < 5 then xs_copyFrom (26 + 7 * (μ 24 1).toNat) 10 μ else none
def xh_takeBack (μ : Mem) : Option Mem := if 0 ≤ μ 24 1 ∧ μ 24 1 < 5 then xs_copyFrom 10 (26 + 7 * (μ 24 1).toNat) μ else none
section CPY
variable {l : Launch} {D : va_G} {ad : Nat → Nat} {ca : Nat → ClassId}
set_option maxRecDepth 100000 in
theorem e_xs_copyFrom {t o : Nat} (ht : SHPX t) (ho : SHPX o) {μ : Mem} {res : Mem} (h : xs_copyFrom t o μ = some res) : GM shX l D ad ca YX4_copyFrom [.inr t, .inr o] μ none res := by
  obtain ⟨ht0, ht1, ht2, ht3, ht4, ht5, ht6⟩ := ht
  obtain ⟨ho0, ho1, ho2, ho3, ho4, ho5, ho6⟩ := ho
  refine GM.of (L := [some (.inr t), some (.inr o)]) (by decide +kernel) rfl (Nat.le_of_ble_eq_true rfl) ?_
  rw [xs_copyFrom] at h
  cases h
  refine G.aload_n (i := 1) dX4_copyFrom_0 rfl rfl ?_
  refine G.getR ck4 ho0 0 rfl (by decide) q140 dX4_copyFrom_1 ?_
  refine G.iconst dX4_copyFrom_4 ki_0 ?_
  refine G.aload_n (i := 0) dX4_copyFrom_5 rfl rfl ?_
  refine G.getR ck4 ht0 0 rfl (by decide) q140 dX4_copyFrom_6 ?_
  refine G.iconst dX4_copyFrom_9 ki_0 ?_
  refine G.bipush dX4_copyFrom_10 kb_12 ?_
  refine G.copy q326 q328 q327 q71 ho1 ht1 (by decide) (by decide) (by decide) (by decide) (by decide) (by decide) (by decide) dX4_copyFrom_12 ?_
  refine G.aload_n (i := 1) dX4_copyFrom_15 rfl rfl ?_
  refine G.getR ck4 ho0 1 rfl (by decide) q142 dX4_copyFrom_16 ?_
  refine G.iconst dX4_copyFrom_19 ki_0 ?_
  refine G.aload_n (i := 0) dX4_copyFrom_20 rfl rfl ?_
  refine G.getR ck4 ht0 1 rfl (by decide) q142 dX4_copyFrom_21 ?_
  refine G.iconst dX4_copyFrom_24 ki_0 ?_
  refine G.bipush dX4_copyFrom_25 kb_12 ?_
  refine G.copy q326 q328 q327 q71 ho2 ht2 (by decide) (by decide) (by decide) (by decide) (by decide) (by decide) (by decide) dX4_copyFrom_27 ?_
  refine G.aload_n (i := 0) dX4_copyFrom_30 rfl rfl ?_
  refine G.aload_n (i := 1) dX4_copyFrom_31 rfl rfl ?_
  refine G.getI ck4 ho0 2 rfl (by decide) q147 dX4_copyFrom_32 ?_
  refine G.putI ck4 ht0 2 rfl (by decide) q147 rfl rfl rfl dX4_copyFrom_35 ?_
  refine G.aload_n (i := 0) dX4_copyFrom_38 rfl rfl ?_
  refine G.aload_n (i := 1) dX4_copyFrom_39 rfl rfl ?_
  refine G.getI ck4 ho0 3 rfl (by decide) q151 dX4_copyFrom_40 ?_
  refine G.putI ck4 ht0 3 rfl (by decide) q151 rfl rfl rfl dX4_copyFrom_43 ?_
  refine G.aload_n (i := 1) dX4_copyFrom_46 rfl rfl ?_
  refine G.getR ck4 ho0 4 rfl (by decide) q152 dX4_copyFrom_47 ?_
  refine G.iconst dX4_copyFrom_50 ki_0 ?_
  refine G.aload_n (i := 0) dX4_copyFrom_51 rfl rfl ?_
  refine G.getR ck4 ht0 4 rfl (by decide) q152 dX4_copyFrom_52 ?_
  refine G.iconst dX4_copyFrom_55 ki_0 ?_
  refine G.bipush dX4_copyFrom_56 kb_8 ?_
  refine G.copy q326 q328 q327 q71 ho3 ht3 (by decide) (by decide) (by decide) (by decide) (by decide) (by decide) (by decide) dX4_copyFrom_58 ?_
  refine G.aload_n (i := 0) dX4_copyFrom_61 rfl rfl ?_
  refine G.aload_n (i := 1) dX4_copyFrom_62 rfl rfl ?_
  refine G.getI ck4 ho0 5 rfl (by decide) q156 dX4_copyFrom_63 ?_
  refine G.putI ck4 ht0 5 rfl (by decide) q156 rfl rfl rfl dX4_copyFrom_66 ?_
  refine G.aload_n (i := 1) dX4_copyFrom_69 rfl rfl ?_
  refine G.getR ck4 ho0 6 rfl (by decide) q160 dX4_copyFrom_70 ?_
  refine G.iconst dX4_copyFrom_73 ki_0 ?_
  refine G.aload_n (i := 0) dX4_copyFrom_74 rfl rfl ?_
  refine G.getR ck4 ht0 6 rfl (by decide) q160 dX4_copyFrom_75 ?_
  refine G.iconst dX4_copyFrom_78 ki_0 ?_
  refine G.bipush dX4_copyFrom_79 kb_8 ?_
  refine G.copy q326 q328 q327 q71 ho4 ht4 (by decide) (by decide) (by decide) (by decide) (by decide) (by decide) (by decide) dX4_copyFrom_81 ?_
  refine G.aload_n (i := 1) dX4_copyFrom_84 rfl rfl ?_
  refine G.getR ck4 ho0 7 rfl (by decide) q163 dX4_copyFrom_85 ?_
  refine G.iconst dX4_copyFrom_88 ki_0 ?_
  refine G.aload_n (i := 0) dX4_copyFrom_89 rfl rfl ?_
  refine G.getR ck4 ht0 7 rfl (by decide) q163 dX4_copyFrom_90 ?_
  refine G.iconst dX4_copyFrom_93 ki_0 ?_
  refine G.bipush dX4_copyFrom_94 kb_8 ?_
  refine G.copy q326 q328 q327 q71 ho5 ht5 (by decide) (by decide) (by decide) (by decide) (by decide) (by decide) (by decide) dX4_copyFrom_96 ?_
  refine G.aload_n (i := 0) dX4_copyFrom_99 rfl rfl ?_
  refine G.aload_n (i := 1) dX4_copyFrom_100 rfl rfl ?_
  refine G.getI ck4 ho0 8 rfl (by decide) q166 dX4_copyFrom_101 ?_
  refine G.putI ck4 ht0 8 rfl (by decide) q166 rfl rfl rfl dX4_copyFrom_104 ?_
  refine G.aload_n (i := 1) dX4_copyFrom_107 rfl rfl ?_
  refine G.getR ck4 ho0 9 rfl (by decide) q169 dX4_copyFrom_108 ?_
  refine G.iconst dX4_copyFrom_111 ki_0 ?_
  refine G.aload_n (i := 0) dX4_copyFrom_112 rfl rfl ?_
  refine G.getR ck4 ht0 9 rfl (by decide) q169 dX4_copyFrom_113 ?_
  refine G.iconst dX4_copyFrom_116 ki_0 ?_
  refine G.bipush dX4_copyFrom_117 kb_8 ?_
  refine G.copy q326 q328 q327 q71 ho6 ht6 (by decide) (by decide) (by decide) (by decide) (by decide) (by decide) (by decide) dX4_copyFrom_119 ?_
  exact G.vret dX4_copyFrom_122 rfl
theorem e_xh_prepare {μ res : Mem} (h : xh_prepare μ = some res) : GM shX l D ad ca YX2_prepare [.inr 24, .inr 10] μ none res := by
  rw [xh_prepare] at h
  obtain ⟨hz, h⟩ := ite_yn h
  have hi : (μ 24 1).toNat < 5 := by omega
  refine GM.of (L := [some (.inr 24), some (.inr 10)]) (by decide +kernel) rfl (Nat.le_of_ble_eq_true rfl) ?_
  refine G.aload_n (i := 0) dX2_prepare_0 rfl rfl ?_
  refine G.getR ck2 shX_24 0 rfl (by decide) q202 dX2_prepare_1 ?_
  refine G.aload_n (i := 0) dX2_prepare_4 rfl rfl ?_
  refine G.getI ck2 shX_24 1 rfl (by decide) q203 dX2_prepare_5 ?_
  refine G.aald shX_25 hz dX2_prepare_8 ?_
  rw [row_at hi]
  refine G.aload_n (i := 1) dX2_prepare_9 rfl rfl ?_
  refine G.callV (as := [.inr 10]) (rest := []) (e_xs_copyFrom (shp_row hi) shp_10 h) cs_X2_prepare_X4_copyFrom ck4 (shp_row hi).1 rfl rfl (Nat.le_of_ble_eq_true rfl) q322 q323 q324 dX2_prepare_10 ?_
  exact G.vret dX2_prepare_13 rfl
theorem e_xh_takeBack {μ res : Mem} (h : xh_takeBack μ = some res) : GM shX l D ad ca YX2_takeBack [.inr 24, .inr 10] μ none res := by
  rw [xh_takeBack] at h
  obtain ⟨hz, h⟩ := ite_yn h
  have hi : (μ 24 1).toNat < 5 := by omega
  refine GM.of (L := [some (.inr 24), some (.inr 10)]) (by decide +kernel) rfl (Nat.le_of_ble_eq_true rfl) ?_
  refine G.aload_n (i := 1) dX2_takeBack_0 rfl rfl ?_
  refine G.aload_n (i := 0) dX2_takeBack_1 rfl rfl ?_
  refine G.getR ck2 shX_24 0 rfl (by decide) q202 dX2_takeBack_2 ?_
  refine G.aload_n (i := 0) dX2_takeBack_5 rfl rfl ?_
  refine G.getI ck2 shX_24 1 rfl (by decide) q203 dX2_takeBack_6 ?_
  refine G.aald shX_25 hz dX2_takeBack_9 ?_
  rw [row_at hi]
  refine G.callV (as := [.inr (26 + 7 * (μ 24 1).toNat)]) (rest := []) (e_xs_copyFrom shp_10 (shp_row hi) h) cs_X2_takeBack_X4_copyFrom ck4 shX_10 rfl rfl (Nat.le_of_ble_eq_true rfl) q322 q323 q324 dX2_takeBack_10 ?_
  exact G.vret dX2_takeBack_13 rfl
end CPY
