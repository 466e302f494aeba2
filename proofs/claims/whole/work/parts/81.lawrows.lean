/-! the law: two worlds side by side -/
theorem wd_D {sh : List Descr} {ad : Nat → Nat} {ca : Nat → ClassId} {μ μ' : Mem} {A : Nat → Prop} (h : va_D A (wd sh ad ca μ)) : va_D A (wd sh ad ca μ') := by
  refine ⟨fun i j x y hi hj e => ?_, fun k x hx => ?_⟩
  · obtain ⟨d1, e1, f1⟩ := wd_getI hi
    obtain ⟨d2, e2, f2⟩ := wd_getI hj
    rw [f1, f2] at e
    exact h.1 i j _ _ (wd_get e1) (wd_get e2) e
  · obtain ⟨d1, e1, f1⟩ := wd_getI hx
    rw [f1]
    have h2 := h.2 k (ad k, cellE ad ca (μ k) d1) (wd_get e1)
    exact h2
theorem wd_len (sh : List Descr) (ad : Nat → Nat) (ca : Nat → ClassId) (μ : Mem) : (wd sh ad ca μ).length = sh.length := by rw [wd, List.length_mapIdx]
section LAW
variable {p : Program} {l : Launch} {e : Env} {s : State} {m : MethodId} {args : Array Value} {below : List Frame} {meth : Method} {c : Code} {Q : State → Prop} {D : va_G} {ca : Nat → ClassId} {A : Nat → Prop} {R : Room} {own : String} {cc : ByteArray} {n : Nat} {cells slots pc : Nat} {ls : Array Slot} {st st0 : List Value} {H : Heap} {locs : List Loc}
variable {sh sh2 : List Descr} {ad ad2 : Nat → Nat} {μ μ' μ2 : Mem} {Y : MR} {as : List PV} {r : Int} {index : Nat}
/-- the other world stays -/
theorem other_P (hP : va_P D vwCl (wd sh ad ca μ) H) (hP2 : va_P D vwCl (wd sh2 ad2 ca μ2) H) (hap : ∀ i j, i < sh.length → j < sh2.length → ad i ≠ ad2 j) {H1 : Heap} (hk : ∀ q : Nat, q < H.size → ¬ va_A (wd sh ad ca μ) H.size q → H1[q]? = H[q]?) : va_P D vwCl (wd sh2 ad2 ca μ2) H1 := by
  refine hP2.kept (fun k q hq => ?_)
  have hl := (hP2 k q hq).lt
  refine hk q.1 hl (fun z => ?_)
  obtain ⟨d2, e2, f2⟩ := wd_getI hq
  rcases z with ⟨i, x, hx⟩ | z
  · obtain ⟨d1, e1, f1⟩ := wd_getI hx
    have h1 : q.1 = ad i := congrArg Prod.fst f1
    have h2 : q.1 = ad2 k := congrArg Prod.fst f2
    exact hap i k (List.getElem?_eq_some_iff.mp e1).1 (List.getElem?_eq_some_iff.mp e2).1 (h1.symm.trans h2)
  · omega
/-- what a call of the law needs -/
def CL (Y : MR) (n : Nat) : Prop := Cond.initialized Y.1.cls ∈ WS ∧ Cond.code Y.1 Y.2.1 Y.2.2.1 Y.2.2.2.1 ∈ WS ∧ (Y.1.cls ≠ "java/lang/invoke/MethodHandle" ∧ Y.1.cls ≠ "java/lang/invoke/VarHandle" ∧ (parseMethodDescriptor Y.1.desc).map (fun d => d.parameters.length) = some n) ∧ (Y.2.2.2.2.1 + 1 ≤ 11 ∧ 8 + (Y.2.2.1 + 11) + Y.2.2.2.2.2 ≤ 388)
theorem call2_run {Qc : Array Value → State → Outcome → State → Prop} (X : CE D ca own cc n p s m args c A) (hSF : SF ad A s s.heap) (hD : va_D A (wd sh ad ca μ)) {C : String} {T : u_T} {ty : Nat → FieldType} {ci N : Nat} {fs : List (Option Nat)} (ck : CK ci C T N ty) (hs : sh[0]? = some (.inl (ci, fs))) (hC : Y.1.cls = C)
    (hMet : Met l Y.1 (wsY Y) (rmY Y) (Pcc sh D ad ca (.inr 0 :: as) μ H.size) Qc 0 0 (va_A (wd sh ad ca μ) H.size)) (cs : CL Y as.length) (hm : ls.size = n) (hlen : (st.map fun v => v.category).sum ≤ 8) (wl : Cond.methodLink own index Y.1 ∈ WS) (wi : Cond.instanceMethod Y.1 ∈ WS) (wse : Cond.selects Y.1.cls Y.1 Y.1 ∈ WS) (hst : st0 = (as.map (cv ad)).reverse ++ .ref (ad 0) :: st) (d : decode cc pc = .ok (.invokevirtual index, 3))
    (hP : va_P D vwCl (wd sh ad ca μ) H) (hS : va_S A s.heap H locs) (hM : RM μ) (hR : RS as) (hc : cells ≤ room_1.cells) (hsl : slots ≤ room_1.slots) :
    va_Run p l e room_1 s m args below meth c H locs cells slots 0 0 (F0 m pc ls st0) st (Qc (Value.ref (ad 0) :: as.map (cv ad)).toArray) (va_A (wd sh ad ca μ) H.size) := by
  obtain ⟨hx, hb, hml, hown, hts, hK, hA, hNw, hAO⟩ := X
  obtain ⟨w1, w2, w3, w4⟩ := cs
  subst hC
  refine va_runV (Ts := WS) (C := Y.1.cls) (b := ad 0) (As := as.map (cv ad)) (rest := st) (n := as.length) (own := own) (index := index) (nL := n) ⟨hx, hb, hml, hown, hts⟩ hMet
    (cwV as.length hts (gin_ws (fun w hw => ?_)) rfl rfl rfl ⟨rfl, w3⟩ w4) ⟨Pcc_blind _ _ _ _ _ _ _, va_recv hK hP ck.1 (wd_get hs), fun U hU hW => pcc_of (as := .inr 0 :: as) hU hW hP hK hD hS hSF hA hM (RS_cons trivial hR)⟩ rfl (by simp) hm hst (lv_room hlen) d ⟨hc, hsl⟩
  unfold wsV at hw
  rcases List.mem_append.mp hw with h | h
  · simp only [List.mem_cons, List.not_mem_nil, or_false] at h
    rcases h with rfl | rfl | rfl | rfl
    · exact wl
    · exact wi
    · exact wse
    · exact w1
  · exact ws_sub w2 w h
/-- the judgement of the law's walk -/
def LJ (p : Program) (l : Launch) (e : Env) (s : State) (m : MethodId) (args : Array Value) (below : List Frame) (meth : Method) (c : Code) (Q : State → Prop) (D : va_G) (ca : Nat → ClassId) (A : Nat → Prop) (aX aM : Nat → Nat) (ν μ : Mem) (cells slots pc : Nat) (ls : Array Slot) (st : List Value) : Prop :=
  ∀ (H : Heap) (locs : List Loc), va_P D vwCl (wd shX aX ca ν) H → va_P D vwCl (wd shM aM ca μ) H → va_S A s.heap H locs → W p l e room_1 s m args below meth c H locs cells slots Q (F0 m pc ls st)
end LAW
section LAW2
variable {p : Program} {l : Launch} {e : Env} {s : State} {m : MethodId} {args : Array Value} {below : List Frame} {meth : Method} {c : Code} {Q : State → Prop} {D : va_G} {ca : Nat → ClassId} {A : Nat → Prop} {cells slots pc : Nat} {ls : Array Slot} {st st0 : List Value}
variable {aX aM : Nat → Nat} {ν ν' μ μ' : Mem} {Y : MR} {as : List PV} {r : Int} {index b L : Nat} {xs : Nat → Int32}
/-- what the law's walk holds fast -/
def LE (D : va_G) (ca : Nat → ClassId) (aX aM : Nat → Nat) (p : Program) (s : State) (m : MethodId) (args : Array Value) (c : Code) (A : Nat → Prop) (b L : Nat) (xs : Nat → Int32) (cells slots : Nat) : Prop :=
  CE D ca RL cL_law 8 p s m args c A ∧ SF aX A s s.heap ∧ SF aM A s s.heap ∧ (∀ ν, va_D A (wd shX aX ca ν)) ∧ (∀ μ, va_D A (wd shM aM ca μ)) ∧ (∀ i j, i < 69 → j < 11 → aX i ≠ aM j) ∧ (va_X b L xs s s.heap ∧ b < s.heap.size ∧ ¬ A b ∧ L ≤ 2048) ∧ cells ≤ room_1.cells ∧ slots ≤ room_1.slots
theorem LJ.aload (X : LE D ca aX aM p s m args c A b L xs cells slots) {k : Fin 4} {i x : Nat} (d : decode cL_law pc = .ok (.aload_n k, 1)) (hi : (k : Nat) = i) (hl : ls[i]? = some (.val (.ref x))) (kk : LJ p l e s m args below meth c Q D ca A aX aM ν μ cells slots (pc + 1) ls (.ref x :: st)) : LJ p l e s m args below meth c Q D ca A aX aM ν μ cells slots pc ls st :=
  fun H locs hP hP2 hS => lv_aload_n X.1.1 X.1.2.1 d hi hl (kk H locs hP hP2 hS)
theorem LJ.iconst (X : LE D ca aX aM p s m args c A b L xs cells slots) {k : Int} (v : Int32) (d : decode cL_law pc = .ok (.iconst k, 1)) (hv : Int32.ofInt k = v) (kk : LJ p l e s m args below meth c Q D ca A aX aM ν μ cells slots (pc + 1) ls (.int v :: st)) : LJ p l e s m args below meth c Q D ca A aX aM ν μ cells slots pc ls st :=
  fun H locs hP hP2 hS => lv_iconst X.1.1 X.1.2.1 d hv (kk H locs hP hP2 hS)
theorem LJ.goto (X : LE D ca aX aM p s m args c A b L xs cells slots) {off : Int} (tgt : Nat) (d : decode cL_law pc = .ok (.goto off, 3)) (ht : (pc : Int) + off = (tgt : Int)) (kk : LJ p l e s m args below meth c Q D ca A aX aM ν μ cells slots tgt ls st) : LJ p l e s m args below meth c Q D ca A aX aM ν μ cells slots pc ls st :=
  fun H locs hP hP2 hS => lv_goto X.1.1 X.1.2.1 d ht (kk H locs hP hP2 hS)
/-- the script's word behind the place, read -/
theorem LJ.rd (X : LE D ca aX aM p s m args c A b L xs cells slots) {i k : Nat} (hb : ls[0]? = some (.val (.ref b))) (hi : ls[3]? = some (.val (.int (Int32.ofInt i)))) (hin : i + k < L) (d0 : decode cL_law pc = .ok (.aload_n 0, 1)) (d1 : decode cL_law (pc + 1) = .ok (.iload_n 3, 1)) (d2 : decode cL_law (pc + 1 + 1) = .ok (.iconst k, 1)) (d3 : decode cL_law (pc + 1 + 1 + 1) = .ok (.iadd, 1)) (d4 : decode cL_law (pc + 1 + 1 + 1 + 1) = .ok (.iaload, 1))
    (kk : LJ p l e s m args below meth c Q D ca A aX aM ν μ cells slots (pc + 1 + 1 + 1 + 1 + 1) ls (.int (Int32.ofInt (xs (i + k)).toInt) :: st)) : LJ p l e s m args below meth c Q D ca A aX aM ν μ cells slots pc ls st := by
  intro H locs hP hP2 hS
  obtain ⟨⟨hx, hcb, _⟩, _, _, _, _, _, ⟨hX, hbl, hbA, hL⟩, _⟩ := X
  refine lv_aload_n hx hcb d0 rfl hb ?_
  refine lv_iload_n hx hcb d1 rfl hi ?_
  refine lv_iconst hx hcb d2 rfl ?_
  refine lv_iadd hx hcb d3 ?_
  rw [← Int32.ofInt_add]
  have hr : inR ((i : Int) + (k : Int)) := by unfold inR; omega
  refine va_sld hx hcb hX hbl hbA hS (vin_of hr (by omega) (by omega)) d4 ?_
  rw [oi_clamp hr, show ((i : Int) + (k : Int)).toNat = i + k by omega, ← Int32.ofInt_toInt (xs (i + k))]
  have := kk H locs hP hP2 hS
  rw [Int32.ofInt_toInt] at this ⊢
  exact this
theorem LJ.ifeq_y (X : LE D ca aX aM p s m args c A b L xs cells slots) {x : Int} {off : Int} (tgt : Nat) (d : decode cL_law pc = .ok (.ifCond .eq off, 3)) (ht : (pc : Int) + off = (tgt : Int)) (h : x = 0) (kk : LJ p l e s m args below meth c Q D ca A aX aM ν μ cells slots tgt ls st) : LJ p l e s m args below meth c Q D ca A aX aM ν μ cells slots pc ls (.int (Int32.ofInt x) :: st) :=
  fun H locs hP hP2 hS => lv_if_eq X.1.1 X.1.2.1 d ht (fun _ => kk H locs hP hP2 hS) (fun z => absurd (by rw [h]; rfl) z)
theorem LJ.ifeq_n (X : LE D ca aX aM p s m args c A b L xs cells slots) {x : Int} {off : Int} (tgt : Nat) (d : decode cL_law pc = .ok (.ifCond .eq off, 3)) (ht : (pc : Int) + off = (tgt : Int)) (hr : inR x) (h : x ≠ 0) (kk : LJ p l e s m args below meth c Q D ca A aX aM ν μ cells slots (pc + 3) ls st) : LJ p l e s m args below meth c Q D ca A aX aM ν μ cells slots pc ls (.int (Int32.ofInt x) :: st) :=
  fun H locs hP hP2 hS => lv_if_eq X.1.1 X.1.2.1 d ht (fun z => absurd ((oi_inj hr (by decide : inR 0)).mp z) h) (fun _ => kk H locs hP hP2 hS)
theorem LJ.eq_y (X : LE D ca aX aM p s m args c A b L xs cells slots) {x : Int32} {off : Int} (tgt : Nat) (d : decode cL_law pc = .ok (.if_icmp .eq off, 3)) (ht : (pc : Int) + off = (tgt : Int)) (kk : LJ p l e s m args below meth c Q D ca A aX aM ν μ cells slots tgt ls st) : LJ p l e s m args below meth c Q D ca A aX aM ν μ cells slots pc ls (.int x :: .int x :: st) :=
  fun H locs hP hP2 hS => lv_icmp_eq X.1.1 X.1.2.1 d ht (fun _ => kk H locs hP hP2 hS) (fun z => absurd rfl z)
theorem LJ.i2c (X : LE D ca aX aM p s m args c A b L xs cells slots) {x : Int} (d : decode cL_law pc = .ok (.i2c, 1)) (kk : LJ p l e s m args below meth c Q D ca A aX aM ν μ cells slots (pc + 1) ls (.int (Int32.ofInt (nch x)) :: st)) : LJ p l e s m args below meth c Q D ca A aX aM ν μ cells slots pc ls (.int (Int32.ofInt x) :: st) :=
  fun H locs hP hP2 hS => lv_i2c X.1.1 X.1.2.1 d (v := Int32.ofInt (nch x)) (by rw [nch_def, Int32.ofInt_toInt]) (kk H locs hP hP2 hS)
theorem LJ.callX (hM : GM shX l D aX ca Y (.inr 0 :: as) ν (some (.inl r)) ν') (X : LE D ca aX aM p s m args c A b L xs cells slots) (hN : RM ν) (hR : RS as) (hC : Y.1.cls = RX7) (cs : CL Y as.length) (hm : ls.size = 8) (hlen : (st.map fun v => v.category).sum ≤ 8) (wl : Cond.methodLink RL index Y.1 ∈ WS) (wi : Cond.instanceMethod Y.1 ∈ WS) (wse : Cond.selects Y.1.cls Y.1 Y.1 ∈ WS) (hst : st0 = (as.map (cv aX)).reverse ++ .ref (aX 0) :: st) (d : decode cL_law pc = .ok (.invokevirtual index, 3))
    (kk : RM ν' → LJ p l e s m args below meth c Q D ca A aX aM ν' μ cells slots (pc + 3) ls (.int (Int32.ofInt r) :: st)) : LJ p l e s m args below meth c Q D ca A aX aM ν μ cells slots pc ls st0 := by
  intro H locs hP hP2 hS
  have hD := X.2.2.2.1 ν
  have hAA := va_A_wd (ca := ca) (μ := ν) hD hS X.1.2.2.2.2.2.2.1
  refine va_calli (call2_run X.1 X.2.1 hD ck7 shX_0 hC (hM H.size) cs hm hlen wl wi wse hst d hP hS hN hR X.2.2.2.2.2.2.2.1 X.2.2.2.2.2.2.2.2) hS (fun q _ h => hAA q h) hAA (fun v u t H1 locs1 ht hvm hp hB hz hk1 hS1 => ?_)
  obtain ⟨rfl, hr⟩ := hp
  subst ht
  exact kk hB.2.2.2 t.heap locs1 hB.1 (other_P hP hP2 (fun i j hi hj => X.2.2.2.2.2.1 i j hi hj) hk1) hS1
theorem LJ.callM (hM : GM shM l D aM ca Y (.inr 0 :: as) μ (some (.inl r)) μ') (X : LE D ca aX aM p s m args c A b L xs cells slots) (hN : RM μ) (hR : RS as) (hC : Y.1.cls = RX8) (cs : CL Y as.length) (hm : ls.size = 8) (hlen : (st.map fun v => v.category).sum ≤ 8) (wl : Cond.methodLink RL index Y.1 ∈ WS) (wi : Cond.instanceMethod Y.1 ∈ WS) (wse : Cond.selects Y.1.cls Y.1 Y.1 ∈ WS) (hst : st0 = (as.map (cv aM)).reverse ++ .ref (aM 0) :: st) (d : decode cL_law pc = .ok (.invokevirtual index, 3))
    (kk : RM μ' → LJ p l e s m args below meth c Q D ca A aX aM ν μ' cells slots (pc + 3) ls (.int (Int32.ofInt r) :: st)) : LJ p l e s m args below meth c Q D ca A aX aM ν μ cells slots pc ls st0 := by
  intro H locs hP hP2 hS
  have hD := X.2.2.2.2.1 μ
  have hAA := va_A_wd (ca := ca) (μ := μ) hD hS X.1.2.2.2.2.2.2.1
  refine va_calli (call2_run X.1 X.2.2.1 hD ck8 shM_0 hC (hM H.size) cs hm hlen wl wi wse hst d hP2 hS hN hR X.2.2.2.2.2.2.2.1 X.2.2.2.2.2.2.2.2) hS (fun q _ h => hAA q h) hAA (fun v u t H1 locs1 ht hvm hp hB hz hk1 hS1 => ?_)
  obtain ⟨rfl, hr⟩ := hp
  subst ht
  exact kk hB.2.2.2 t.heap locs1 (other_P hP2 hP (fun i j hi hj z => X.2.2.2.2.2.1 j i hj hi z.symm) hk1) hB.1 hS1
theorem LJ.callXd {x : UInt64} (hM : GMd shX l D aX ca Y (.inr 0 :: as) ν x) (X : LE D ca aX aM p s m args c A b L xs cells slots) (hN : RM ν) (hR : RS as) (hC : Y.1.cls = RX7) (cs : CL Y as.length) (hm : ls.size = 8) (hlen : (st.map fun v => v.category).sum ≤ 8) (wl : Cond.methodLink RL index Y.1 ∈ WS) (wi : Cond.instanceMethod Y.1 ∈ WS) (wse : Cond.selects Y.1.cls Y.1 Y.1 ∈ WS) (hst : st0 = (as.map (cv aX)).reverse ++ .ref (aX 0) :: st) (d : decode cL_law pc = .ok (.invokevirtual index, 3))
    (kk : LJ p l e s m args below meth c Q D ca A aX aM ν μ cells slots (pc + 3) ls (.double x :: st)) : LJ p l e s m args below meth c Q D ca A aX aM ν μ cells slots pc ls st0 := by
  intro H locs hP hP2 hS
  have hD := X.2.2.2.1 ν
  have hAA := va_A_wd (ca := ca) (μ := ν) hD hS X.1.2.2.2.2.2.2.1
  refine va_calld (call2_run X.1 X.2.1 hD ck7 shX_0 hC (hM H.size) cs hm hlen wl wi wse hst d hP hS hN hR X.2.2.2.2.2.2.2.1 X.2.2.2.2.2.2.2.2) hS (fun q _ h => hAA q h) hAA (fun v u t H1 locs1 ht hvm hp hB hz hk1 hS1 => ?_)
  subst hp
  subst ht
  exact kk t.heap locs1 hB.1 (other_P hP hP2 (fun i j hi hj => X.2.2.2.2.2.1 i j hi hj) hk1) hS1
theorem LJ.callMd {x : UInt64} (hM : GMd shM l D aM ca Y (.inr 0 :: as) μ x) (X : LE D ca aX aM p s m args c A b L xs cells slots) (hN : RM μ) (hR : RS as) (hC : Y.1.cls = RX8) (cs : CL Y as.length) (hm : ls.size = 8) (hlen : (st.map fun v => v.category).sum ≤ 8) (wl : Cond.methodLink RL index Y.1 ∈ WS) (wi : Cond.instanceMethod Y.1 ∈ WS) (wse : Cond.selects Y.1.cls Y.1 Y.1 ∈ WS) (hst : st0 = (as.map (cv aM)).reverse ++ .ref (aM 0) :: st) (d : decode cL_law pc = .ok (.invokevirtual index, 3))
    (kk : LJ p l e s m args below meth c Q D ca A aX aM ν μ cells slots (pc + 3) ls (.double x :: st)) : LJ p l e s m args below meth c Q D ca A aX aM ν μ cells slots pc ls st0 := by
  intro H locs hP hP2 hS
  have hD := X.2.2.2.2.1 μ
  have hAA := va_A_wd (ca := ca) (μ := μ) hD hS X.1.2.2.2.2.2.2.1
  refine va_calld (call2_run X.1 X.2.2.1 hD ck8 shM_0 hC (hM H.size) cs hm hlen wl wi wse hst d hP2 hS hN hR X.2.2.2.2.2.2.2.1 X.2.2.2.2.2.2.2.2) hS (fun q _ h => hAA q h) hAA (fun v u t H1 locs1 ht hvm hp hB hz hk1 hS1 => ?_)
  subst hp
  subst ht
  exact kk t.heap locs1 (other_P hP2 hP (fun i j hi hj z => X.2.2.2.2.2.1 j i hj hi z.symm) hk1) hB.1 hS1
theorem nch_b (x : Int) : 0 ≤ nch x ∧ nch x < 65536 := by
  rw [nch_def]
  have h : ((Int32.ofInt x).toUInt32 % 65536).toNat < 65536 := by
    rw [UInt32.toNat_mod]
    exact Nat.mod_lt _ (by decide)
  generalize (Int32.ofInt x).toUInt32 % 65536 = y at h
  have e : y.toInt32.toInt = (y.toNat : Int) := by
    show y.toBitVec.toInt = (y.toBitVec.toNat : Int)
    rw [BitVec.toInt_eq_toNat_of_lt]
    have : y.toBitVec.toNat < 65536 := h
    omega
  rw [e]
  omega
end LAW2
