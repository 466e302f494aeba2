/-! the law: rows over its one object -/
theorem wd_D {sh : List Descr} {ad : Nat → Nat} {ca : Nat → ClassId} {μ μ' : Mem} {A : Nat → Prop} (h : va_D A (wd sh ad ca μ)) : va_D A (wd sh ad ca μ') := by
  refine ⟨fun i j x y hi hj e => ?_, fun k x hx => ?_⟩
  · obtain ⟨d1, e1, f1⟩ := wd_getI hi
    obtain ⟨d2, e2, f2⟩ := wd_getI hj
    rw [f1, f2] at e
    exact h.1 i j _ _ (wd_get e1) (wd_get e2) e
  · obtain ⟨d1, e1, f1⟩ := wd_getI hx
    rw [f1]
    have h2 := h.2 k (ad k, cellE ad ca (μ k) d1) (wd_get e1)
    exact h2
theorem ofN_ofI (n : Nat) : Int32.ofNat n = Int32.ofInt (n : Int) := by
  apply Int32.toInt_inj.mp
  rw [oi_to, w32_bmod]
  show (BitVec.ofNat 32 n).toInt = _
  first | rw [BitVec.toInt_ofNat'] | exact Int32.toInt_ofNat' | simp
section LAW
variable {p : Program} {l : Launch} {e : Env} {s : State} {m : MethodId} {args : Array Value} {below : List Frame} {meth : Method} {c : Code} {Q : State → Prop} {D : va_G} {ca : Nat → ClassId} {A : Nat → Prop} {own : String} {cc : ByteArray} {n : Nat} {cells slots pc : Nat} {ls : Array Slot} {st st0 : List Value} {H : Heap} {locs : List Loc}
variable {sh : List Descr} {ad : Nat → Nat} {μ μ' : Mem} {Y : MR} {as : List PV} {r : Int} {index : Nat}
/-- what a call of the law needs -/
def CL (Y : MR) (n : Nat) : Prop := Cond.initialized Y.1.cls ∈ WS ∧ Cond.code Y.1 Y.2.1 Y.2.2.1 Y.2.2.2.1 ∈ WS ∧ (Y.1.cls ≠ "java/lang/invoke/MethodHandle" ∧ Y.1.cls ≠ "java/lang/invoke/VarHandle" ∧ (parseMethodDescriptor Y.1.desc).map (fun d => d.parameters.length) = some n) ∧ (Y.2.2.2.2.1 + 1 ≤ 10 ∧ 8 + (Y.2.2.1 + 11) + Y.2.2.2.2.2 ≤ 374)
theorem callV_run {Qc : Array Value → State → Outcome → State → Prop} (X : CE D ca own cc n p s m args c A) (hSF : SF ad A s s.heap) (hD : va_D A (wd sh ad ca μ)) {C : String} {T : u_T} {ty : Nat → FieldType} {ci N : Nat} {fs : List (Option Nat)} (ck : CK ci C T N ty) (hs : sh[0]? = some (.inl (ci, fs))) (hC : Y.1.cls = C)
    (hMet : Met l Y.1 (wsY Y) (rmY Y) (Pcc sh D ad ca (.inr 0 :: as) μ H.size) Qc 0 0 (va_A (wd sh ad ca μ) H.size)) (cs : CL Y as.length) (hm : ls.size = n) (hlen : (st.map fun v => v.category).sum ≤ 8) (wl : Cond.methodLink own index Y.1 ∈ WS) (wi : Cond.instanceMethod Y.1 ∈ WS) (wse : Cond.selects Y.1.cls Y.1 Y.1 ∈ WS) (hst : st0 = (as.map (cv ad)).reverse ++ .ref (ad 0) :: st) (d : decode cc pc = .ok (.invokevirtual index, 3))
    (hP : va_P D vwCl (wd sh ad ca μ) H) (hS : va_S A s.heap H locs) (hM : RM μ) (hR : RS as) (hc : cells ≤ room_1.cells) (hsl : slots ≤ room_1.slots) :
    va_Run p l e room_1 s m args below meth c H locs cells slots 0 0 (F0 m pc ls st0) st (Qc (Value.ref (ad 0) :: as.map (cv ad)).toArray) (va_A (wd sh ad ca μ) H.size) := by
  obtain ⟨hx, hb, hml, hown, hts, hK, hA, hNw, hAO⟩ := X
  obtain ⟨w1, w2, w3, w4⟩ := cs
  subst hC
  refine va_runV (Ts := WS) (C := Y.1.cls) (b := ad 0) (As := as.map (cv ad)) (rest := st) (n := as.length) (own := own) (index := index) (nL := n) ⟨hx, hb, hml, hown, hts⟩ hMet
    (cwV as.length hts (gin_ws (fun w hw => ?_)) rfl rfl rfl ⟨rfl, w3⟩ w4) ⟨Pcc_blind _ _ _ _ _ _ _, va_recv hK hP ck.1 (wd_get hs), fun U hU hW => pcc_of (as := .inr 0 :: as) hU hW hP hK hD hS hSF hA hM (RS_cons trivial hR)⟩ rfl (by simp) hm hst (lv_room hlen) d ⟨hc, hsl⟩
  unfold wsV at hw
  rcases List.mem_append.mp hw with h | h
  · simp only [List.mem_cons, List.not_mem_nil, or_false] at h
    rcases h with rfl | rfl | rfl | rfl
    · exact wl
    · exact wi
    · exact wse
    · exact w1
  · exact ws_sub w2 w h
theorem callS_run {Qc : Array Value → State → Outcome → State → Prop} (X : CE D ca own cc n p s m args c A) (hSF : SF ad A s s.heap) (hD : va_D A (wd sh ad ca μ))
    (hMet : Met l Y.1 (wsY Y) (rmY Y) (Pcc sh D ad ca as μ H.size) Qc 0 0 (va_A (wd sh ad ca μ) H.size)) (cs : CL Y as.length) (hm : ls.size = n) (hlen : (st.map fun v => v.category).sum ≤ 8) (wl : Cond.methodLink own index Y.1 ∈ WS) (wst : Cond.static Y.1 ∈ WS) (hst : st0 = (as.map (cv ad)).reverse ++ st) (d : decode cc pc = .ok (.invokestatic index, 3))
    (hP : va_P D vwCl (wd sh ad ca μ) H) (hS : va_S A s.heap H locs) (hM : RM μ) (hR : RS as) (hc : cells ≤ room_1.cells) (hsl : slots ≤ room_1.slots) :
    va_Run p l e room_1 s m args below meth c H locs cells slots 0 0 (F0 m pc ls st0) st (Qc (as.map (cv ad)).toArray) (va_A (wd sh ad ca μ) H.size) := by
  obtain ⟨hx, hb, hml, hown, hts, hK, hA, hNw, hAO⟩ := X
  obtain ⟨w1, w2, w3, w4⟩ := cs
  refine va_runS (Ts := WS) (As := as.map (cv ad)) (rest := st) (n := as.length) (own := own) (index := index) (nL := n) ⟨hx, hb, hml, hown, hts⟩ hMet
    (va_cwS as.length hts (gin_ws (fun w hw => ?_)) rfl rfl rfl w3 w4) ⟨Pcc_blind _ _ _ _ _ _ _, fun U hU hW => pcc_of (as := as) hU hW hP hK hD hS hSF hA hM hR⟩ rfl (by simp) hm hst (lv_room hlen) d ⟨hc, hsl⟩
  unfold va_wsS at hw
  rcases List.mem_append.mp hw with h | h
  · simp only [List.mem_cons, List.not_mem_nil, or_false] at h
    rcases h with rfl | rfl | rfl
    · exact wl
    · exact wst
    · exact w1
  · exact ws_sub w2 w h
end LAW
/-! the script's cell, or what stands in for it -/
def cellZ (xs : Nat → Int32) (L k : Nat) : Int32 := if k < L then xs k else Int32.ofInt 7919 * (Int32.ofInt (k : Int) + Int32.ofInt 3) * (Int32.ofInt (k : Int) + Int32.ofInt 11)
def YL_cell : MR := (yL_cell, cL_cell, 2, some .int, 0, 0)
def cellPc (D : va_G) (ca : Nat → ClassId) (ad : Nat → Nat) (μ : Mem) (b L : Nat) (xs : Nat → Int32) (k : Nat) (sz : Nat) : Array Value → State → Prop :=
  va_Pc [.ref b, .int (Int32.ofInt (k : Int))] (fun U => U.heap.size = sz ∧ b < sz ∧ va_X b L xs U U.heap ∧ va_P D vwCl (wd shX ad ca μ) U.heap ∧ va_K D vwCl (tysC ca) U ∧ va_D (fun _ => True) (wd shX ad ca μ) ∧ RM μ)
theorem cellPc_blind (D : va_G) (ca : Nat → ClassId) (ad : Nat → Nat) (μ : Mem) (b L : Nat) (xs : Nat → Int32) (k : Nat) (sz : Nat) : FrameBlind (cellPc D ca ad μ b L xs k sz) := fun a U g mk q => by
  obtain ⟨q0, q1, q2, qX, qP, qK, qD, qM⟩ := q
  exact ⟨q0, q1, q2, va_X.moved (u := U) (U := U.calling g mk a) (Vm.Alike.refl U.vm) qX, qP, va_K.moved (u := U) (U := U.calling g mk a) (Vm.Alike.refl U.vm) qK, qD, qM⟩
theorem mt_cell (l : Launch) {D : va_G} {ca : Nat → ClassId} {ad : Nat → Nat} {b L k : Nat} {xs : Nat → Int32} (hL : L ≤ 260) (hk : k < 1000) (μ : Mem) (sz : Nat) :
    Met l YL_cell.1 (wsY YL_cell) (rmY YL_cell) (cellPc D ca ad μ b L xs k sz) (QQ shX D ad ca (some (.inl (cellZ xs L k).toInt)) μ (va_A (wd shX ad ca μ) sz)) 0 0 (va_A (wd shX ad ca μ) sz) := by
  refine Met.ofW (cc := cL_cell) (maxL := 2) (ret := some .int) (by decide +kernel) rfl ?_
  intro p e s m args below meth c s₁ B hml hvv
  obtain ⟨rfl, hsz, hbl, hX, hP, hK, hD0, hM⟩ := hvv
  have hx := B.exec
  have hb := B.bytes
  have hr := B.returns
  have hlocks := B.notSynchronized
  subst hsz
  have hD := hD0.self (sz := s.heap.size)
  have hl := lv_entry ([.ref b, .int (Int32.ofInt (k : Int))]) (n := 2) (Nat.le_of_ble_eq_true rfl)
  rw [lg_entry_eq]
  generalize (lg_sl ([.ref b, .int (Int32.ofInt (k : Int))]) ++ List.replicate (2 - (lg_sl ([.ref b, .int (Int32.ofInt (k : Int))])).length) Slot.unset).toArray = ls at hl ⊢
  have hl : lv_has ls 2 [(0, .ref b), (1, .int (Int32.ofInt (k : Int)))] := hl
  have kR : inR (k : Int) := by unfold inR; omega
  have LR : inR (L : Int) := by unfold inR; omega
  have fin : ∀ z : Int32, z = cellZ xs L k → W p l e (rmY YL_cell) s m [Value.ref b, .int (Int32.ofInt (k : Int))].toArray below meth c s.heap [] 0 0 (MQ below (QQ shX D ad ca (some (.inl (cellZ xs L k).toInt)) μ (va_A (wd shX ad ca μ) s.heap.size)) [Value.ref b, .int (Int32.ofInt (k : Int))].toArray s 0 0 (va_A (wd shX ad ca μ) s.heap.size)) (F0 m 24 ls [.int z]) := fun z hz => by
    subst hz
    exact W.iret hx hb hr (fun t ht hW => ⟨⟨cellZ xs L k, (), rfl, ⟨by rw [Int32.ofInt_toInt], to_in _⟩, by rw [ht]; exact hP, va_K.moved hW.alike hK, hD, hM⟩, va_S.rf.F ht⟩) (by intro q hq; cases hq) dL_cell_24 hlocks
  refine lv_iload_n hx hb dL_cell_0 rfl (lv_at hl 1 rfl) ?_
  refine lv_aload_n hx hb dL_cell_1 rfl (lv_at hl 0 rfl) ?_
  refine va_slen (A := fun _ => False) hx hb hX hbl (fun z => z) va_S.rf dL_cell_2 ?_
  rw [ofN_ofI]
  refine lv_icmp_ge (tgt := 12) hx hb dL_cell_3 (by decide) (fun h => ?_) (fun h => ?_)
  · have hge : ¬ k < L := by have := (oi_le LR kR).mp h; omega
    refine lv_sipush (v := Int32.ofInt 7919) hx hb dL_cell_12 (by decide) ?_
    refine lv_iload_n hx hb dL_cell_15 rfl (lv_at hl 1 rfl) ?_
    refine lv_iconst (v := Int32.ofInt 3) hx hb dL_cell_16 (by decide) ?_
    refine lv_iadd hx hb dL_cell_17 ?_
    refine lv_imul hx hb dL_cell_18 ?_
    refine lv_iload_n hx hb dL_cell_19 rfl (lv_at hl 1 rfl) ?_
    refine lv_bipush (v := Int32.ofInt 11) hx hb dL_cell_20 (by decide) ?_
    refine lv_iadd hx hb dL_cell_22 ?_
    refine lv_imul hx hb dL_cell_23 ?_
    exact fin _ (by unfold cellZ; rw [if_neg hge])
  · have hlt : k < L := by
      refine Nat.lt_of_not_le fun z => h ((oi_le LR kR).mpr (by omega))
    refine lv_aload_n hx hb dL_cell_6 rfl (lv_at hl 0 rfl) ?_
    refine lv_iload_n hx hb dL_cell_7 rfl (lv_at hl 1 rfl) ?_
    refine va_sld (A := fun _ => False) hx hb hX hbl (fun z => z) va_S.rf (vin_of kR (by omega) (by omega)) dL_cell_8 ?_
    refine lv_goto (tgt := 24) hx hb dL_cell_9 (by decide) ?_
    rw [oi_clamp kR, Int.toNat_natCast]
    exact fin _ (by unfold cellZ; rw [if_pos hlt])
section LAW2
variable {p : Program} {l : Launch} {e : Env} {s : State} {m : MethodId} {args : Array Value} {below : List Frame} {meth : Method} {c : Code} {Q : State → Prop} {D : va_G} {ca : Nat → ClassId} {A : Nat → Prop} {cells slots pc : Nat} {ls : Array Slot} {st st0 : List Value}
variable {aX : Nat → Nat} {ν ν' : Mem} {Y : MR} {as : List PV} {r : Int} {index b L : Nat} {xs : Nat → Int32}
/-- the judgement of the law's walk -/
def LJ (p : Program) (l : Launch) (e : Env) (s : State) (m : MethodId) (args : Array Value) (below : List Frame) (meth : Method) (c : Code) (Q : State → Prop) (D : va_G) (ca : Nat → ClassId) (A : Nat → Prop) (aX : Nat → Nat) (ν : Mem) (cells slots pc : Nat) (ls : Array Slot) (st : List Value) : Prop :=
  ∀ (H : Heap) (locs : List Loc), va_P D vwCl (wd shX aX ca ν) H → va_S A s.heap H locs → W p l e room_1 s m args below meth c H locs cells slots Q (F0 m pc ls st)
/-- what the law's walk holds fast -/
def LE (D : va_G) (ca : Nat → ClassId) (aX : Nat → Nat) (p : Program) (s : State) (m : MethodId) (args : Array Value) (c : Code) (A : Nat → Prop) (b L : Nat) (xs : Nat → Int32) (cells slots : Nat) : Prop :=
  CE D ca RL cL_law 9 p s m args c A ∧ SF aX A s s.heap ∧ (∀ ν, va_D A (wd shX aX ca ν)) ∧ (va_X b L xs s s.heap ∧ b < s.heap.size ∧ ¬ A b ∧ L ≤ 260) ∧ cells ≤ room_1.cells ∧ slots ≤ room_1.slots
theorem LJ.aload_n (X : LE D ca aX p s m args c A b L xs cells slots) {k : Fin 4} {i x : Nat} (d : decode cL_law pc = .ok (.aload_n k, 1)) (hi : (k : Nat) = i) (hl : ls[i]? = some (.val (.ref x))) (kk : LJ p l e s m args below meth c Q D ca A aX ν cells slots (pc + 1) ls (.ref x :: st)) : LJ p l e s m args below meth c Q D ca A aX ν cells slots pc ls st :=
  fun H locs hP hS => lv_aload_n X.1.1 X.1.2.1 d hi hl (kk H locs hP hS)
theorem LJ.iload_n (X : LE D ca aX p s m args c A b L xs cells slots) {k : Fin 4} {i : Nat} {x : Int32} (d : decode cL_law pc = .ok (.iload_n k, 1)) (hi : (k : Nat) = i) (hl : ls[i]? = some (.val (.int x))) (kk : LJ p l e s m args below meth c Q D ca A aX ν cells slots (pc + 1) ls (.int x :: st)) : LJ p l e s m args below meth c Q D ca A aX ν cells slots pc ls st :=
  fun H locs hP hS => lv_iload_n X.1.1 X.1.2.1 d hi hl (kk H locs hP hS)
theorem LJ.iload (X : LE D ca aX p s m args c A b L xs cells slots) {i : Nat} {x : Int32} (d : decode cL_law pc = .ok (.iload i, 2)) (hl : ls[i]? = some (.val (.int x))) (kk : LJ p l e s m args below meth c Q D ca A aX ν cells slots (pc + 2) ls (.int x :: st)) : LJ p l e s m args below meth c Q D ca A aX ν cells slots pc ls st :=
  fun H locs hP hS => lv_iload X.1.1 X.1.2.1 d hl (kk H locs hP hS)
theorem LJ.istore (X : LE D ca aX p s m args c A b L xs cells slots) {i : Nat} {x : Int32} {lv : List (Nat × Value)} (lv' : List (Nat × Value)) (d : decode cL_law pc = .ok (.istore i, 2)) (h : lv_has ls 9 lv) (hn : i < 9) (hl : (i, Value.int x) :: lv.filter (fun q => !(q.1 == i) && !(q.1 + 1 == i && q.2.category == 2)) = lv') (kk : ∀ ls' : Array Slot, lv_has ls' 9 lv' → LJ p l e s m args below meth c Q D ca A aX ν cells slots (pc + 2) ls' st) : LJ p l e s m args below meth c Q D ca A aX ν cells slots pc ls (.int x :: st) :=
  fun H locs hP hS => lv_istore X.1.1 X.1.2.1 d h hn hl (fun ls' h' => kk ls' h' H locs hP hS)
theorem LJ.istore_n (X : LE D ca aX p s m args c A b L xs cells slots) {k : Fin 4} {i : Nat} {x : Int32} {lv : List (Nat × Value)} (lv' : List (Nat × Value)) (d : decode cL_law pc = .ok (.istore_n k, 1)) (hi : (k : Nat) = i) (h : lv_has ls 9 lv) (hn : i < 9) (hl : (i, Value.int x) :: lv.filter (fun q => !(q.1 == i) && !(q.1 + 1 == i && q.2.category == 2)) = lv') (kk : ∀ ls' : Array Slot, lv_has ls' 9 lv' → LJ p l e s m args below meth c Q D ca A aX ν cells slots (pc + 1) ls' st) : LJ p l e s m args below meth c Q D ca A aX ν cells slots pc ls (.int x :: st) :=
  fun H locs hP hS => lv_istore_n X.1.1 X.1.2.1 d hi h hn hl (fun ls' h' => kk ls' h' H locs hP hS)
theorem LJ.iinc (X : LE D ca aX p s m args c A b L xs cells slots) {i k : Nat} {j : Int} {x : Int32} (v : Int32) {lv : List (Nat × Value)} (lv' : List (Nat × Value)) (d : decode cL_law pc = .ok (.iinc i j, 3)) (h : lv_has ls 9 lv) (hk : lv[k]? = some (i, .int x)) (hv : x + Int32.ofInt j = v) (hn : i < 9) (hl : (i, Value.int v) :: lv.filter (fun q => !(q.1 == i) && !(q.1 + 1 == i && q.2.category == 2)) = lv') (kk : ∀ ls' : Array Slot, lv_has ls' 9 lv' → LJ p l e s m args below meth c Q D ca A aX ν cells slots (pc + 3) ls' st) : LJ p l e s m args below meth c Q D ca A aX ν cells slots pc ls st :=
  fun H locs hP hS => lv_iinc X.1.1 X.1.2.1 d h hk hv hn hl (fun ls' h' => kk ls' h' H locs hP hS)
theorem LJ.iconst (X : LE D ca aX p s m args c A b L xs cells slots) {k : Int} (d : decode cL_law pc = .ok (.iconst k, 1)) (kk : LJ p l e s m args below meth c Q D ca A aX ν cells slots (pc + 1) ls (.int (Int32.ofInt k) :: st)) : LJ p l e s m args below meth c Q D ca A aX ν cells slots pc ls st :=
  fun H locs hP hS => lv_iconst X.1.1 X.1.2.1 d rfl (kk H locs hP hS)
theorem LJ.bipush (X : LE D ca aX p s m args c A b L xs cells slots) {k : Int} (d : decode cL_law pc = .ok (.bipush k, 2)) (hv : (Int8.ofInt k).toInt32 = Int32.ofInt k) (kk : LJ p l e s m args below meth c Q D ca A aX ν cells slots (pc + 2) ls (.int (Int32.ofInt k) :: st)) : LJ p l e s m args below meth c Q D ca A aX ν cells slots pc ls st :=
  fun H locs hP hS => lv_bipush X.1.1 X.1.2.1 d hv (kk H locs hP hS)
theorem LJ.sipush (X : LE D ca aX p s m args c A b L xs cells slots) {k : Int} (d : decode cL_law pc = .ok (.sipush k, 3)) (hv : (Int16.ofInt k).toInt32 = Int32.ofInt k) (kk : LJ p l e s m args below meth c Q D ca A aX ν cells slots (pc + 3) ls (.int (Int32.ofInt k) :: st)) : LJ p l e s m args below meth c Q D ca A aX ν cells slots pc ls st :=
  fun H locs hP hS => lv_sipush X.1.1 X.1.2.1 d hv (kk H locs hP hS)
theorem LJ.iadd (X : LE D ca aX p s m args c A b L xs cells slots) {x y : Int} (d : decode cL_law pc = .ok (.iadd, 1)) (kk : LJ p l e s m args below meth c Q D ca A aX ν cells slots (pc + 1) ls (.int (Int32.ofInt (w32 (x + y))) :: st)) : LJ p l e s m args below meth c Q D ca A aX ν cells slots pc ls (.int (Int32.ofInt y) :: .int (Int32.ofInt x) :: st) :=
  fun H locs hP hS => lv_iadd X.1.1 X.1.2.1 d (by have h := kk H locs hP hS; rw [oi_w32, Int32.ofInt_add] at h; exact h)
theorem LJ.isub (X : LE D ca aX p s m args c A b L xs cells slots) {x y : Int} (d : decode cL_law pc = .ok (.isub, 1)) (kk : LJ p l e s m args below meth c Q D ca A aX ν cells slots (pc + 1) ls (.int (Int32.ofInt (w32 (x - y))) :: st)) : LJ p l e s m args below meth c Q D ca A aX ν cells slots pc ls (.int (Int32.ofInt y) :: .int (Int32.ofInt x) :: st) :=
  fun H locs hP hS => lv_isub X.1.1 X.1.2.1 d (by have h := kk H locs hP hS; rw [oi_w32, Int32.ofInt_sub] at h; exact h)
theorem LJ.ishr (X : LE D ca aX p s m args c A b L xs cells slots) {x y : Int} (d : decode cL_law pc = .ok (.ishr, 1)) (kk : LJ p l e s m args below meth c Q D ca A aX ν cells slots (pc + 1) ls (.int (Int32.ofInt (ishr32 x y)) :: st)) : LJ p l e s m args below meth c Q D ca A aX ν cells slots pc ls (.int (Int32.ofInt y) :: .int (Int32.ofInt x) :: st) :=
  fun H locs hP hS => lv_ishr X.1.1 X.1.2.1 d (by have h := kk H locs hP hS; unfold ishr32 at h; rw [Int32.ofInt_toInt] at h; exact h)
theorem LJ.irem (X : LE D ca aX p s m args c A b L xs cells slots) {x y : Int} (d : decode cL_law pc = .ok (.irem, 1)) (hx : inR x) (hy : inR y) (hne : y ≠ 0) (kk : LJ p l e s m args below meth c Q D ca A aX ν cells slots (pc + 1) ls (.int (Int32.ofInt (Int.tmod x y)) :: st)) : LJ p l e s m args below meth c Q D ca A aX ν cells slots pc ls (.int (Int32.ofInt y) :: .int (Int32.ofInt x) :: st) :=
  fun H locs hP hS => lv_irem X.1.1 X.1.2.1 d (fun z => hne ((oi_inj hy (by decide : inR 0)).mp z)) (by rw [oi_rem hx hy]; exact kk H locs hP hS)
theorem LJ.goto (X : LE D ca aX p s m args c A b L xs cells slots) {off : Int} (tgt : Nat) (d : decode cL_law pc = .ok (.goto off, 3)) (ht : (pc : Int) + off = (tgt : Int)) (kk : LJ p l e s m args below meth c Q D ca A aX ν cells slots tgt ls st) : LJ p l e s m args below meth c Q D ca A aX ν cells slots pc ls st :=
  fun H locs hP hS => lv_goto X.1.1 X.1.2.1 d ht (kk H locs hP hS)
theorem LJ.lt (X : LE D ca aX p s m args c A b L xs cells slots) {x off : Int} (tgt : Nat) (d : decode cL_law pc = .ok (.ifCond .lt off, 3)) (ht : (pc : Int) + off = (tgt : Int)) (hr : inR x) (k1 : x < 0 → LJ p l e s m args below meth c Q D ca A aX ν cells slots tgt ls st) (k2 : ¬ x < 0 → LJ p l e s m args below meth c Q D ca A aX ν cells slots (pc + 3) ls st) : LJ p l e s m args below meth c Q D ca A aX ν cells slots pc ls (.int (Int32.ofInt x) :: st) :=
  fun H locs hP hS => lv_if_lt X.1.1 X.1.2.1 d ht (fun z => k1 ((oi_lt hr (by decide : inR 0)).mp z) H locs hP hS) (fun z => k2 (fun y => z ((oi_lt hr (by decide : inR 0)).mpr y)) H locs hP hS)
theorem LJ.eq0 (X : LE D ca aX p s m args c A b L xs cells slots) {off : Int} (tgt : Nat) (d : decode cL_law pc = .ok (.ifCond .eq off, 3)) (ht : (pc : Int) + off = (tgt : Int)) (kk : LJ p l e s m args below meth c Q D ca A aX ν cells slots (pc + 3) ls st) : LJ p l e s m args below meth c Q D ca A aX ν cells slots pc ls (.int (Int32.ofInt 1) :: st) :=
  fun H locs hP hS => lv_if_eq X.1.1 X.1.2.1 d ht (fun z => absurd z (by decide)) (fun _ => kk H locs hP hS)
theorem LJ.ne0 (X : LE D ca aX p s m args c A b L xs cells slots) {off : Int} (tgt : Nat) (d : decode cL_law pc = .ok (.ifCond .ne off, 3)) (ht : (pc : Int) + off = (tgt : Int)) (kk : LJ p l e s m args below meth c Q D ca A aX ν cells slots tgt ls st) : LJ p l e s m args below meth c Q D ca A aX ν cells slots pc ls (.int (Int32.ofInt 1) :: st) :=
  fun H locs hP hS => lv_if_ne X.1.1 X.1.2.1 d ht (fun _ => kk H locs hP hS) (fun z => absurd z (by decide))
theorem LJ.ceq (X : LE D ca aX p s m args c A b L xs cells slots) {x y off : Int} (tgt : Nat) (d : decode cL_law pc = .ok (.if_icmp .eq off, 3)) (ht : (pc : Int) + off = (tgt : Int)) (hx : inR x) (hy : inR y) (k1 : x = y → LJ p l e s m args below meth c Q D ca A aX ν cells slots tgt ls st) (k2 : ¬ x = y → LJ p l e s m args below meth c Q D ca A aX ν cells slots (pc + 3) ls st) : LJ p l e s m args below meth c Q D ca A aX ν cells slots pc ls (.int (Int32.ofInt y) :: .int (Int32.ofInt x) :: st) :=
  fun H locs hP hS => lv_icmp_eq X.1.1 X.1.2.1 d ht (fun z => k1 ((oi_inj hx hy).mp z) H locs hP hS) (fun z => k2 (fun w => z ((oi_inj hx hy).mpr w)) H locs hP hS)
theorem LJ.cne (X : LE D ca aX p s m args c A b L xs cells slots) {x y off : Int} (tgt : Nat) (d : decode cL_law pc = .ok (.if_icmp .ne off, 3)) (ht : (pc : Int) + off = (tgt : Int)) (hx : inR x) (hy : inR y) (k1 : ¬ x = y → LJ p l e s m args below meth c Q D ca A aX ν cells slots tgt ls st) (k2 : x = y → LJ p l e s m args below meth c Q D ca A aX ν cells slots (pc + 3) ls st) : LJ p l e s m args below meth c Q D ca A aX ν cells slots pc ls (.int (Int32.ofInt y) :: .int (Int32.ofInt x) :: st) :=
  fun H locs hP hS => lv_icmp_ne X.1.1 X.1.2.1 d ht (fun z => k1 (fun w => z ((oi_inj hx hy).mpr w)) H locs hP hS) (fun z => k2 ((oi_inj hx hy).mp z) H locs hP hS)
theorem LJ.cge (X : LE D ca aX p s m args c A b L xs cells slots) {x y off : Int} (tgt : Nat) (d : decode cL_law pc = .ok (.if_icmp .ge off, 3)) (ht : (pc : Int) + off = (tgt : Int)) (hx : inR x) (hy : inR y) (k1 : y ≤ x → LJ p l e s m args below meth c Q D ca A aX ν cells slots tgt ls st) (k2 : ¬ y ≤ x → LJ p l e s m args below meth c Q D ca A aX ν cells slots (pc + 3) ls st) : LJ p l e s m args below meth c Q D ca A aX ν cells slots pc ls (.int (Int32.ofInt y) :: .int (Int32.ofInt x) :: st) :=
  fun H locs hP hS => lv_icmp_ge X.1.1 X.1.2.1 d ht (fun z => k1 ((oi_le hy hx).mp z) H locs hP hS) (fun z => k2 (fun w => z ((oi_le hy hx).mpr w)) H locs hP hS)
theorem LJ.callV (hM : GM shX l D aX ca Y (.inr 0 :: as) ν (some (.inl r)) ν') (X : LE D ca aX p s m args c A b L xs cells slots) (hN : RM ν) (hR : RS as) (hC : Y.1.cls = RX7) (cs : CL Y as.length) (hm : ls.size = 9) (hlen : (st.map fun v => v.category).sum ≤ 8) (wl : Cond.methodLink RL index Y.1 ∈ WS) (wi : Cond.instanceMethod Y.1 ∈ WS) (wse : Cond.selects Y.1.cls Y.1 Y.1 ∈ WS) (hst : st0 = (as.map (cv aX)).reverse ++ .ref (aX 0) :: st) (d : decode cL_law pc = .ok (.invokevirtual index, 3))
    (kk : RM ν' → inR r → LJ p l e s m args below meth c Q D ca A aX ν' cells slots (pc + 3) ls (.int (Int32.ofInt r) :: st)) : LJ p l e s m args below meth c Q D ca A aX ν cells slots pc ls st0 := by
  intro H locs hP hS
  have hD := X.2.2.1 ν
  have hAA := va_A_wd (ca := ca) (μ := ν) hD hS X.1.2.2.2.2.2.2.1
  refine va_calli (callV_run X.1 X.2.1 hD ck7 shX_0 hC (hM H.size) cs hm hlen wl wi wse hst d hP hS hN hR X.2.2.2.2.1 X.2.2.2.2.2) hS (fun q _ h => hAA q h) hAA (fun v u t H1 locs1 ht hvm hp hB hz hk1 hS1 => ?_)
  obtain ⟨rfl, hr⟩ := hp
  subst ht
  exact kk hB.2.2.2 hr t.heap locs1 hB.1 hS1
theorem LJ.callS (hM : GM shX l D aX ca Y as ν (some (.inl r)) ν') (X : LE D ca aX p s m args c A b L xs cells slots) (hN : RM ν) (hR : RS as) (cs : CL Y as.length) (hm : ls.size = 9) (hlen : (st.map fun v => v.category).sum ≤ 8) (wl : Cond.methodLink RL index Y.1 ∈ WS) (wst : Cond.static Y.1 ∈ WS) (hst : st0 = (as.map (cv aX)).reverse ++ st) (d : decode cL_law pc = .ok (.invokestatic index, 3))
    (kk : RM ν' → inR r → LJ p l e s m args below meth c Q D ca A aX ν' cells slots (pc + 3) ls (.int (Int32.ofInt r) :: st)) : LJ p l e s m args below meth c Q D ca A aX ν cells slots pc ls st0 := by
  intro H locs hP hS
  have hD := X.2.2.1 ν
  have hAA := va_A_wd (ca := ca) (μ := ν) hD hS X.1.2.2.2.2.2.2.1
  refine va_calli (callS_run X.1 X.2.1 hD (hM H.size) cs hm hlen wl wst hst d hP hS hN hR X.2.2.2.2.1 X.2.2.2.2.2) hS (fun q _ h => hAA q h) hAA (fun v u t H1 locs1 ht hvm hp hB hz hk1 hS1 => ?_)
  obtain ⟨rfl, hr⟩ := hp
  subst ht
  exact kk hB.2.2.2 hr t.heap locs1 hB.1 hS1
theorem LJ.cell (X : LE D ca aX p s m args c A b L xs cells slots) {k : Nat} (hk : k < 1000) (hN : RM ν) (cs : CL YL_cell 2) (hm : ls.size = 9) (hlen : (st.map fun v => v.category).sum ≤ 8) (wl : Cond.methodLink RL index YL_cell.1 ∈ WS) (wst : Cond.static YL_cell.1 ∈ WS) (d : decode cL_law pc = .ok (.invokestatic index, 3))
    (kk : RM ν → inR (cellZ xs L k).toInt → LJ p l e s m args below meth c Q D ca A aX ν cells slots (pc + 3) ls (.int (Int32.ofInt (cellZ xs L k).toInt) :: st)) : LJ p l e s m args below meth c Q D ca A aX ν cells slots pc ls (.int (Int32.ofInt (k : Int)) :: .ref b :: st) := by
  intro H locs hP hS
  have hD := X.2.2.1 ν
  have hAA := va_A_wd (ca := ca) (μ := ν) hD hS X.1.2.2.2.2.2.2.1
  obtain ⟨⟨hx, hb, hml, hown, hts, hK, hA, hNw, hAO⟩, -, -, ⟨hX, hbl, hbA, hL⟩, hc, hsl⟩ := X
  obtain ⟨w1, w2, w3, w4⟩ := cs
  have hbH : b < H.size := Nat.lt_of_lt_of_le hbl hS.1
  refine va_calli (a := [Value.ref b, .int (Int32.ofInt (k : Int))].toArray) (va_runS (Ts := WS) (As := [Value.ref b, .int (Int32.ofInt (k : Int))]) (rest := st) (n := 2) (own := RL) (index := index) (nL := 9) ⟨hx, hb, hml, hown, hts⟩ (mt_cell l hL hk ν H.size)
      (va_cwS 2 hts (gin_ws (fun w hw => ?_)) rfl rfl rfl w3 w4) ⟨cellPc_blind _ _ _ _ _ _ _ _ _, fun U hU hW => ⟨rfl, by rw [hU], hbH, by rw [hU]; exact va_X.moved hW.alike (va_X.kept hX (hS.2.1 b hbl hbA)), by rw [hU]; exact hP, va_K.moved hW.alike hK, va_D_mem (μ := ν) hD (fun _ _ => trivial), hN⟩⟩ rfl rfl hm rfl (lv_room hlen) d ⟨hc, hsl⟩) hS (fun q _ h => hAA q h) hAA (fun v u t H1 locs1 ht hvm hp hB hz hk1 hS1 => ?_)
  · unfold va_wsS at hw
    rcases List.mem_append.mp hw with h | h
    · simp only [List.mem_cons, List.not_mem_nil, or_false] at h
      rcases h with rfl | rfl | rfl
      · exact wl
      · exact wst
      · exact w1
    · exact ws_sub w2 w h
  · obtain ⟨rfl, hr⟩ := hp
    subst ht
    exact kk hB.2.2.2 hr t.heap locs1 hB.1 hS1
end LAW2
