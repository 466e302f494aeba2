/-! constructors: rows over a world that grows, whatever else it holds -/
theorem va_nd_range (n k : Nat) : va_nd ((List.range n).map (fun i => k + i)) = true := by
  induction n generalizing k with
  | zero => rfl
  | succ n ih =>
    rw [List.range_succ_eq_map, List.map_cons, List.map_map, va_nd, Bool.and_eq_true, decide_eq_true_eq]
    refine ⟨fun h => ?_, ?_⟩
    · obtain ⟨i, -, hi⟩ := List.mem_map.mp h
      dsimp only [Function.comp] at hi
      omega
    · have e : (fun i => k + i) ∘ Nat.succ = fun i => (k + 1) + i := by funext i; show k + (i + 1) = k + 1 + i; omega
      rw [e]
      exact ih (k + 1)
theorem range_get (ws : va_W) (w2 : va_W) : (List.range ws.length).map (fun i => (ws ++ w2)[i]?) = ws.map some := by
  apply List.ext_getElem?
  intro i
  rw [List.getElem?_map, List.getElem?_map]
  by_cases h : i < ws.length
  · rw [List.getElem?_range h]
    show some ((ws ++ w2)[i]?) = Option.map some ws[i]?
    rw [List.getElem?_append_left h, List.getElem?_eq_getElem h]
    rfl
  · rw [List.getElem?_eq_none (by rw [List.length_range]; omega), List.getElem?_eq_none (by omega)]
    rfl
/-- a constructor's contract: from the blank object to the cells of what it made -/
def MC {S : Type} (l : Launch) (D : va_G) (ca : Nat → ClassId) (Y : MR) (ci : Nat) (df as : List Value) (mc ms : Nat) (post : S → Prop) (cells : Nat → S → va_W) : Prop :=
  ∀ q sz : Nat, Met l Y.1 (wsY Y) { frames := Y.2.2.2.2.1, cells := mc, slots := ms, locals := Y.2.2.2.2.2 } (va_Pc (.ref q :: as) (fun U => U.heap.size = sz ∧ va_P D vwCl [(q, .inr (ci, df))] U.heap ∧ va_K D vwCl (tysC ca) U ∧ va_D (fun _ => True) [(q, .inr (ci, df))] ∧ (∀ w ∈ NWS, va_Nw w U) ∧ va_AO "SpiceThrees$Shop" U))
    (va_Qv post (fun u t => va_P D vwCl (cells q u) t.heap ∧ va_K D vwCl (tysC ca) t ∧ va_D (va_A [(q, .inr (ci, df))] sz) (cells q u)) (va_A [(q, .inr (ci, df))] sz)) mc ms (va_A [(q, .inr (ci, df))] sz)
/-- what a walk holds fast -/
def CE (D : va_G) (ca : Nat → ClassId) (own : String) (cc : ByteArray) (n : Nat) (p : Program) (s : State) (m : MethodId) (args : Array Value) (c : Code) (A : Nat → Prop) : Prop :=
  p.tables.exec = Jvm.exec ∧ c.code = cc ∧ c.maxLocals = n ∧ s.vm.findClass own = some m.cls ∧ (∀ w ∈ WS, w.before args s = true) ∧ va_K D vwCl (tysC ca) s ∧ (∀ q : Nat, s.heap.size ≤ q → A q) ∧ (∀ w ∈ NWS, va_Nw w s) ∧ va_AO "SpiceThrees$Shop" s
section CT
variable {p : Program} {l : Launch} {e : Env} {R : Room} {s : State} {m : MethodId} {args : Array Value} {below : List Frame} {meth : Method} {c : Code} {Q : State → Prop} {cc : ByteArray} {own : String} {n : Nat} {D : va_G} {ca : Nat → ClassId} {A : Nat → Prop} {ws : va_W} {cells slots pc : Nat} {ls : Array Slot} {st : List Value}
def CJ (p : Program) (l : Launch) (e : Env) (R : Room) (s : State) (m : MethodId) (args : Array Value) (below : List Frame) (meth : Method) (c : Code) (Q : State → Prop) (D : va_G) (A : Nat → Prop) (ws : va_W) (cells slots pc : Nat) (ls : Array Slot) (st : List Value) : Prop :=
  ∀ (H : Heap) (locs : List Loc), va_P D vwCl ws H → va_D A ws → va_S A s.heap H locs → W p l e R s m args below meth c H locs cells slots Q (F0 m pc ls st)
theorem CJ.aload (X : CE D ca own cc n p s m args c A) {k : Fin 4} {i x : Nat} (d : decode cc pc = .ok (.aload_n k, 1)) (hi : (k : Nat) = i) (hl : ls[i]? = some (.val (.ref x))) (kk : CJ p l e R s m args below meth c Q D A ws cells slots (pc + 1) ls (.ref x :: st)) : CJ p l e R s m args below meth c Q D A ws cells slots pc ls st :=
  fun H locs hP hD hS => lv_aload_n X.1 X.2.1 d hi hl (kk H locs hP hD hS)
theorem CJ.iload (X : CE D ca own cc n p s m args c A) {k : Fin 4} {i : Nat} {x : Int32} (d : decode cc pc = .ok (.iload_n k, 1)) (hi : (k : Nat) = i) (hl : ls[i]? = some (.val (.int x))) (kk : CJ p l e R s m args below meth c Q D A ws cells slots (pc + 1) ls (.int x :: st)) : CJ p l e R s m args below meth c Q D A ws cells slots pc ls st :=
  fun H locs hP hD hS => lv_iload_n X.1 X.2.1 d hi hl (kk H locs hP hD hS)
theorem CJ.iconst (X : CE D ca own cc n p s m args c A) {k : Int} (v : Int32) (d : decode cc pc = .ok (.iconst k, 1)) (hv : Int32.ofInt k = v) (kk : CJ p l e R s m args below meth c Q D A ws cells slots (pc + 1) ls (.int v :: st)) : CJ p l e R s m args below meth c Q D A ws cells slots pc ls st :=
  fun H locs hP hD hS => lv_iconst X.1 X.2.1 d hv (kk H locs hP hD hS)
theorem CJ.bipush (X : CE D ca own cc n p s m args c A) {k : Int} (v : Int32) (d : decode cc pc = .ok (.bipush k, 2)) (hv : (Int8.ofInt k).toInt32 = v) (kk : CJ p l e R s m args below meth c Q D A ws cells slots (pc + 2) ls (.int v :: st)) : CJ p l e R s m args below meth c Q D A ws cells slots pc ls st :=
  fun H locs hP hD hS => lv_bipush X.1 X.2.1 d hv (kk H locs hP hD hS)
theorem CJ.sipush (X : CE D ca own cc n p s m args c A) {k : Int} (v : Int32) (d : decode cc pc = .ok (.sipush k, 3)) (hv : (Int16.ofInt k).toInt32 = v) (kk : CJ p l e R s m args below meth c Q D A ws cells slots (pc + 3) ls (.int v :: st)) : CJ p l e R s m args below meth c Q D A ws cells slots pc ls st :=
  fun H locs hP hD hS => lv_sipush X.1 X.2.1 d hv (kk H locs hP hD hS)
theorem CJ.dup (X : CE D ca own cc n p s m args c A) {x : Nat} (d : decode cc pc = .ok (.dup, 1)) (kk : CJ p l e R s m args below meth c Q D A ws cells slots (pc + 1) ls (.ref x :: .ref x :: st)) : CJ p l e R s m args below meth c Q D A ws cells slots pc ls (.ref x :: st) :=
  fun H locs hP hD hS => lv_dup X.1 X.2.1 d rfl (kk H locs hP hD hS)
theorem CJ.goto (X : CE D ca own cc n p s m args c A) {off : Int} (tgt : Nat) (d : decode cc pc = .ok (.goto off, 3)) (ht : (pc : Int) + off = (tgt : Int)) (kk : CJ p l e R s m args below meth c Q D A ws cells slots tgt ls st) : CJ p l e R s m args below meth c Q D A ws cells slots pc ls st :=
  fun H locs hP hD hS => lv_goto X.1 X.2.1 d ht (kk H locs hP hD hS)
theorem CJ.ge_y (X : CE D ca own cc n p s m args c A) {x y : Int32} {off : Int} (tgt : Nat) (d : decode cc pc = .ok (.if_icmp .ge off, 3)) (ht : (pc : Int) + off = (tgt : Int)) (h : y ≤ x) (kk : CJ p l e R s m args below meth c Q D A ws cells slots tgt ls st) : CJ p l e R s m args below meth c Q D A ws cells slots pc ls (.int y :: .int x :: st) :=
  fun H locs hP hD hS => lv_icmp_ge X.1 X.2.1 d ht (fun _ => kk H locs hP hD hS) (fun z => absurd h z)
theorem CJ.ge_n (X : CE D ca own cc n p s m args c A) {x y : Int32} {off : Int} (tgt : Nat) (d : decode cc pc = .ok (.if_icmp .ge off, 3)) (ht : (pc : Int) + off = (tgt : Int)) (h : ¬ y ≤ x) (kk : CJ p l e R s m args below meth c Q D A ws cells slots (pc + 3) ls st) : CJ p l e R s m args below meth c Q D A ws cells slots pc ls (.int y :: .int x :: st) :=
  fun H locs hP hD hS => lv_icmp_ge X.1 X.2.1 d ht (fun z => absurd z h) (fun _ => kk H locs hP hD hS)
theorem CJ.istore (X : CE D ca own cc n p s m args c A) {k : Fin 4} {i : Nat} {x : Int32} {lv : List (Nat × Value)} (lv' : List (Nat × Value)) (d : decode cc pc = .ok (.istore_n k, 1)) (hi : (k : Nat) = i) (h : lv_has ls n lv) (hn : i < n) (hl : (i, Value.int x) :: lv.filter (fun q => !(q.1 == i) && !(q.1 + 1 == i && q.2.category == 2)) = lv') (kk : ∀ ls' : Array Slot, lv_has ls' n lv' → CJ p l e R s m args below meth c Q D A ws cells slots (pc + 1) ls' st) : CJ p l e R s m args below meth c Q D A ws cells slots pc ls (.int x :: st) :=
  fun H locs hP hD hS => lv_istore_n X.1 X.2.1 d hi h hn hl (fun ls' h' => kk ls' h' H locs hP hD hS)
theorem CJ.iinc (X : CE D ca own cc n p s m args c A) {i k : Nat} {j : Int} {x : Int32} (v : Int32) {lv : List (Nat × Value)} (lv' : List (Nat × Value)) (d : decode cc pc = .ok (.iinc i j, 3)) (h : lv_has ls n lv) (hk : lv[k]? = some (i, .int x)) (hv : x + Int32.ofInt j = v) (hn : i < n) (hl : (i, Value.int v) :: lv.filter (fun q => !(q.1 == i) && !(q.1 + 1 == i && q.2.category == 2)) = lv') (kk : ∀ ls' : Array Slot, lv_has ls' n lv' → CJ p l e R s m args below meth c Q D A ws cells slots (pc + 3) ls' st) : CJ p l e R s m args below meth c Q D A ws cells slots pc ls st :=
  fun H locs hP hD hS => lv_iinc X.1 X.2.1 d h hk hv hn hl (fun ls' h' => kk ls' h' H locs hP hD hS)
theorem CJ.iadd (X : CE D ca own cc n p s m args c A) {x y : Int32} (v : Int32) (d : decode cc pc = .ok (.iadd, 1)) (hv : x + y = v) (kk : CJ p l e R s m args below meth c Q D A ws cells slots (pc + 1) ls (.int v :: st)) : CJ p l e R s m args below meth c Q D A ws cells slots pc ls (.int y :: .int x :: st) :=
  fun H locs hP hD hS => lv_iadd X.1 X.2.1 d (by rw [hv]; exact kk H locs hP hD hS)
theorem CJ.objInit (X : CE D ca own cc n p s m args c A) {x index : Nat} (hm : ls.size = n) (w1 : Cond.methodLink own index Lib.objectInit ∈ WS) (w2 : Cond.instanceMethod Lib.objectInit ∈ WS) (w3 : Cond.code Lib.objectInit ⟨#[0xb1]⟩ 1 none ∈ WS) (d : decode cc pc = .ok (.invokespecial index, 3)) (h1 : 1 ≤ R.frames) (h2 : 12 ≤ R.locals) (kk : CJ p l e R s m args below meth c Q D A ws cells slots (pc + 3) ls []) : CJ p l e R s m args below meth c Q D A ws cells slots pc ls [.ref x] :=
  fun H locs hP hD hS => W.objInit X.1 X.2.1 X.2.2.2.1 (X.2.2.2.2.1 _ w1) (X.2.2.2.2.1 _ w2) (X.2.2.2.2.1 _ w3) rfl (by rw [X.2.2.1]; exact hm) rfl d h1 h2 (W.eq (g2 := F0 m (pc + 3) ls []) rfl (kk H locs hP hD hS))
/-- a new row of numbers -/
theorem CJ.arr (X : CE D ca own cc n p s m args c A) {atype : ArrayType} (i : Nat) {ty : FieldType} (hty : newarray.typeOf atype = ty) (hti : (tysC ca)[i]? = some (ca i, ty)) (hra : ∀ k, va_RA s k ty → s.vm.findClass ("[" ++ ty.toString) = some k) (hw : Cond.arrayClass ty ∈ WS) (hdef : defaultValue ty = .int (Int32.ofInt 0)) {x : Int32} (N : Nat) (hn : ¬ x < 0) (hN : x.toNatClampNeg = N) (hbytes : N * componentBytes ty ≤ 536870912) (hcells : cells + 1 ≤ R.cells) (hslots : slots + N ≤ R.slots) (d : decode cc pc = .ok (.newarray atype, 2))
    (kk : ∀ q : Nat, CJ p l e R s m args below meth c Q D A (ws ++ [(q, .inl (ca i, N, .inl fun _ => Int32.ofInt 0))]) (cells + 1) (slots + N) (pc + 2) ls (.ref q :: st)) : CJ p l e R s m args below meth c Q D A ws cells slots pc ls (.int x :: st) := by
  intro H locs hP hD hS
  subst hty
  refine va_newa (tys := tysC ca) (a0 := (N, .inl fun _ => Int32.ofInt 0)) X.1 X.2.1 (X.2.2.2.2.1 _ hw) rfl X.2.2.2.2.2.1 hP hD hS X.2.2.2.2.2.2.1 (fun cA => by rw [vp_cell_i, hdef]) hn hN hbytes hcells hslots d (fun q cA H1 hK1 hP1 hD1 hS1 => ?_)
  have e1 := hra _ (X.2.2.2.2.2.1.2 i _ hti).2
  have e2 := hra _ (hK1.2 6 (cA, newarray.typeOf atype) rfl).2
  have e : cA = ca i := Option.some.inj (e2.symm.trans e1)
  subst e
  exact kk q H1 locs hP1 hD1 hS1
/-- a new object, blank -/
theorem CJ.new (X : CE D ca own cc n p s m args c A) {ci N index : Nat} {C : String} {T : u_T} {ty : Nat → FieldType} (ck : CK ci C T N ty) (fs : List Value) (w1 : Cond.classLink own index C ∈ WS) (w2 : Cond.instantiable C N ∈ WS) (w3 : Cond.initialized C ∈ WS) (hfs : ∀ j, j < N → defaultValue (ty j) = vp_V fs j) (hcells : cells + 1 ≤ R.cells) (hslots : slots + N ≤ R.slots) (d : decode cc pc = .ok (.new index, 3))
    (kk : ∀ q : Nat, CJ p l e R s m args below meth c Q D A (ws ++ [(q, .inr (ci, fs))]) (cells + 1) (slots + N) (pc + 3) ls (.ref q :: st)) : CJ p l e R s m args below meth c Q D A ws cells slots pc ls st :=
  fun H locs hP hD hS => va_new (tys := tysC ca) X.1 X.2.1 X.2.2.2.2.1 ck.2.1 ty ck.2.2.1 X.2.2.2.1 (X.2.2.2.2.1 _ w1) (X.2.2.2.2.1 _ w2) (X.2.2.2.2.1 _ w3) X.2.2.2.2.2.1 hP hD hS X.2.2.2.2.2.2.1 ck.1 hfs hcells hslots d (fun q H1 hP1 hD1 hS1 => kk q H1 locs hP1 hD1 hS1)
/-- a new row of references -/
theorem CJ.newq (X : CE D ca own cc n p s m args c A) {index : Nat} {x : Int32} (N : Nat) (w1 : Cond.classLink own index "SpiceThrees$Shop" ∈ WS) (hn : ¬ x < 0) (hN : x.toNatClampNeg = N) (hbytes : N * 4 ≤ 536870912) (hcells : cells + 1 ≤ R.cells) (hslots : slots + N ≤ R.slots) (d : decode cc pc = .ok (.anewarray index, 3))
    (kk : ∀ q : Nat, CJ p l e R s m args below meth c Q D A (ws ++ [(q, .inl (ca 5, N, .inr (.inr (.inr (.inr fun _ => none)))))]) (cells + 1) (slots + N) (pc + 3) ls (.ref q :: st)) : CJ p l e R s m args below meth c Q D A ws cells slots pc ls (.int x :: st) := by
  intro H locs hP hD hS
  refine va_newq (tys := tysC ca) X.1 X.2.1 X.2.2.2.1 (X.2.2.2.2.1 _ w1) X.2.2.2.2.2.2.2.2 X.2.2.2.2.2.1 hP hD hS X.2.2.2.2.2.2.1 hn hN hbytes hcells hslots d (fun q cA H1 hK1 hP1 hD1 hS1 => ?_)
  obtain ⟨_, _, _, _, _, e1⟩ := (X.2.2.2.2.2.1.2 5 (ca 5, .object "SpiceThrees$Shop") rfl).2
  obtain ⟨_, _, _, _, _, e2⟩ := (hK1.2 6 (cA, .object "SpiceThrees$Shop") rfl).2
  have e : cA = ca 5 := Option.some.inj (e2.symm.trans e1)
  subst e
  exact kk q H1 locs hP1 hD1 hS1
theorem CJ.put (X : CE D ca own cc n p s m args c A) {ci N index a : Nat} {C : String} {T : u_T} {ty : Nat → FieldType} {fs : List Value} {v : Value} (ck : CK ci C T N ty) (q0 : Nat) (he : ws[q0]? = some (a, .inr (ci, fs))) (k : Nat) (hk : k < N) (hl : Cond.fieldLink own index (T k).1 (T k).2.1 (T k).2.2.1 ∈ WS) (hfin : (T k).2.2.2 = false) (hn : narrow (ty k) v = v) (hfit : fits (ty k) v = true) (hlen : k < fs.length) (d : decode cc pc = .ok (.putfield index, 3)) (ws' : va_W) (hws : ws.set q0 (a, .inr (ci, fs.set k v)) = ws')
    (kk : CJ p l e R s m args below meth c Q D A ws' cells slots (pc + 3) ls st) : CJ p l e R s m args below meth c Q D A ws cells slots pc ls (v :: .ref a :: st) :=
  fun H locs hP hD hS => va_put (tys := tysC ca) X.1 X.2.1 X.2.2.2.2.1 ck.2.1 ty ck.2.2.1 ck.2.2.2 X.2.2.2.1 X.2.2.2.2.2.1 hP hD hS q0 he ck.1 k hk (X.2.2.2.2.1 _ hl) (fun _ h => h) hfin (ck.2.2.1 k hk) hn hfit hlen d (fun H1 locs1 hP1 hD1 hS1 => kk H1 locs1 (by rw [← hws]; exact hP1) (by rw [← hws]; exact hD1) hS1)
theorem CJ.putF (X : CE D ca own cc n p s m args c A) (hi : meth.name = "<init>") {ci N index a : Nat} {C : String} {T : u_T} {ty : Nat → FieldType} {fs : List Value} {v : Value} (ck : CK ci C T N ty) (q0 : Nat) (he : ws[q0]? = some (a, .inr (ci, fs))) (k : Nat) (hk : k < N) (hl : Cond.fieldLink own index (T k).1 (T k).2.1 (T k).2.2.1 ∈ WS) (hfin : (T k).2.2.2 = true) (hdecl : (T k).1 = own) (hn : narrow (ty k) v = v) (hfit : fits (ty k) v = true) (hlen : k < fs.length) (d : decode cc pc = .ok (.putfield index, 3)) (ws' : va_W) (hws : ws.set q0 (a, .inr (ci, fs.set k v)) = ws')
    (kk : CJ p l e R s m args below meth c Q D A ws' cells slots (pc + 3) ls st) : CJ p l e R s m args below meth c Q D A ws cells slots pc ls (v :: .ref a :: st) :=
  fun H locs hP hD hS => va_putF (tys := tysC ca) X.1 X.2.1 X.2.2.2.2.1 ck.2.1 ty ck.2.2.1 ck.2.2.2 X.2.2.2.1 X.2.2.2.2.2.1 hP hD hS q0 he ck.1 k hk (X.2.2.2.2.1 _ hl) (fun _ h => h) hfin hi hdecl (ck.2.2.1 k hk) hn hfit hlen d (fun H1 locs1 hP1 hD1 hS1 => kk H1 locs1 (by rw [← hws]; exact hP1) (by rw [← hws]; exact hD1) hS1)
theorem CJ.get (X : CE D ca own cc n p s m args c A) {ci N index a : Nat} {C : String} {T : u_T} {ty : Nat → FieldType} {fs : List Value} (v : Value) (ck : CK ci C T N ty) (q0 : Nat) (he : ws[q0]? = some (a, .inr (ci, fs))) (k : Nat) (hk : k < N) (hl : Cond.fieldLink own index (T k).1 (T k).2.1 (T k).2.2.1 ∈ WS) (hv : fs[k]? = some v) (d : decode cc pc = .ok (.getfield index, 3))
    (kk : CJ p l e R s m args below meth c Q D A ws cells slots (pc + 3) ls (v :: st)) : CJ p l e R s m args below meth c Q D A ws cells slots pc ls (.ref a :: st) :=
  fun H locs hP hD hS => va_get (tys := tysC ca) X.1 X.2.1 X.2.2.2.2.1 ck.2.1 X.2.2.2.1 X.2.2.2.2.2.1 hP q0 he ck.1 k hk (X.2.2.2.2.1 _ hl) (fun _ h => h) hv d (kk H locs hP hD hS)
theorem CJ.iast (X : CE D ca own cc n p s m args c A) {a N : Nat} {f : Nat → Int32} {i x : Int32} (q0 : Nat) (he : ws[q0]? = some (a, .inl (ca 0, N, .inl f))) (j : Nat) (hin : vp_in i N) (hj : i.toNatClampNeg = j) (d : decode cc pc = .ok (.iastore, 1)) (ws' : va_W) (hws : ws.set q0 (a, .inl (ca 0, N, .inl (upd f j x))) = ws')
    (kk : CJ p l e R s m args below meth c Q D A ws' cells slots (pc + 1) ls st) : CJ p l e R s m args below meth c Q D A ws cells slots pc ls (.int x :: .int i :: .ref a :: st) :=
  fun H locs hP hD hS => va_iast (tys := tysC ca) X.1 X.2.1 X.2.2.2.2.2.1 hP hD hS q0 0 he rfl hin d (fun H1 locs1 hP1 hD1 hS1 => kk H1 locs1 (by rw [← hws, ← hj]; exact hP1) (by rw [← hws, ← hj]; exact hD1) hS1)
theorem CJ.aast (X : CE D ca own cc n p s m args c A) {a v N : Nat} {vs : List Value} {f : Nat → Option Nat} {i : Int32} (q0 qk : Nat) (he : ws[q0]? = some (a, .inl (ca 5, N, .inr (.inr (.inr (.inr f)))))) (hv : ws[qk]? = some (v, .inr (4, vs))) (j : Nat) (hin : vp_in i N) (hj : i.toNatClampNeg = j) (d : decode cc pc = .ok (.aastore, 1)) (ws' : va_W) (hws : ws.set q0 (a, .inl (ca 5, N, .inr (.inr (.inr (.inr (va_up f j (some v))))))) = ws')
    (kk : CJ p l e R s m args below meth c Q D A ws' cells slots (pc + 1) ls st) : CJ p l e R s m args below meth c Q D A ws cells slots pc ls (.ref v :: .int i :: .ref a :: st) :=
  fun H locs hP hD hS => va_astq (tys := tysC ca) (r := (RX4, TX4, 10)) X.1 X.2.1 X.2.2.2.2.2.1 hP hD hS q0 5 qk 4 he rfl hv rfl hin d (fun H1 locs1 hP1 hD1 hS1 => kk H1 locs1 (by rw [← hws, ← hj]; exact hP1) (by rw [← hws, ← hj]; exact hD1) hS1)
theorem CJ.vret {free : Addr → Prop} {Qc : Array Value → State → Outcome → State → Prop} (X : CE D ca own cc n p s m args c A) (hr : meth.sig.returnType = none) (hlocks : meth.locks = false) (d : decode cc pc = .ok (.return_, 1)) (hf : ∀ q, A q → free q) (hq : ∀ (H : Heap) (locs : List Loc) (t : State), va_P D vwCl ws H → va_D A ws → va_S A s.heap H locs → t.heap = H → s.WarmedH t.vm → Qc args s (.returned none) t) : CJ p l e R s m args below meth c (MQ below Qc args s cells slots free) D A ws cells slots pc ls [] :=
  fun H locs hP hD hS => W.vret X.1 X.2.1 hr (fun t ht hW => hq H locs t hP hD hS ht hW) (fun q hq => hf _ (hS.2.2 q hq)) d hlocks
/-- a constructor called on the last cell -/
theorem CJ.ctor {S : Type} {Y : MR} {ci mc ms index q : Nat} {df as : List Value} {post : S → Prop} {cl : Nat → S → va_W} (hM : MC l D ca Y ci df as mc ms post cl) (X : CE D ca own cc n p s m args c A) (hm : ls.size = n) (w1 : Cond.methodLink own index Y.1 ∈ WS) (w2 : Cond.instanceMethod Y.1 ∈ WS) (w3 : Cond.initialized Y.1.cls ∈ WS) (w4 : Cond.code Y.1 Y.2.1 Y.2.2.1 Y.2.2.2.1 ∈ WS) (hret : Y.2.2.2.1 = none) (hy : Y.1.name = "<init>") (hd : Y.1.cls ≠ "java/lang/invoke/MethodHandle" ∧ Y.1.cls ≠ "java/lang/invoke/VarHandle" ∧ (parseMethodDescriptor Y.1.desc).map (fun d => d.parameters.length) = some as.length) (hR : Y.2.2.2.2.1 + 1 ≤ R.frames ∧ 8 + (Y.2.2.1 + 11) + Y.2.2.2.2.2 ≤ R.locals) {st0 : List Value} (hst : st0 = as.reverse ++ .ref q :: st) (hlen : (st.map fun v => v.category).sum ≤ 8) (d : decode cc pc = .ok (.invokespecial index, 3)) (hc : cells + mc ≤ R.cells) (hs : slots + ms ≤ R.slots)
    (kk : ∀ u : S, post u → CJ p l e R s m args below meth c Q D A (ws ++ cl q u) (cells + mc) (slots + ms) (pc + 3) ls st) : CJ p l e R s m args below meth c Q D A (ws ++ [(q, .inr (ci, df))]) cells slots pc ls st0 := by
  intro H locs hP hD hS
  obtain ⟨hx, hb, hml, hown, hts, hK, hA, hNw, hAO⟩ := X
  have hC : [ws.length].map (fun i => (ws ++ [(q, Sum.inr (ci, df))])[i]?) = [((q, Sum.inr (ci, df)) : Nat × va_E)].map some := by simp
  have hR2 : (List.range ws.length).map (fun i => (ws ++ [((q, Sum.inr (ci, df)) : Nat × va_E)])[i]?) = ws.map some := range_get ws _
  have hPc : va_P D vwCl [(q, .inr (ci, df))] H := fun k x hk => hP (ws.length + k) x (by rw [List.getElem?_append_right (by omega), show ws.length + k - ws.length = k by omega]; exact hk)
  have hFc := va_free (wc := [(q, .inr (ci, df))]) hD hS hA [ws.length] hC
  have hDc := hD.sub (ws' := [(q, .inr (ci, df))]) [ws.length] rfl hC
  have hnd : va_nd (List.range ws.length) = true := by
    have := va_nd_range ws.length 0
    simpa using this
  rw [hret] at w4
  refine va_callv (va_runI (y := Y.1) (As := as) (rest := st) (n := as.length) ⟨hx, hb, hml, hown, hts⟩ (hM q H.size) (cwI as.length hts (gin_ws (fun w hw => ?_)) (by rw [wsY, hret]) rfl rfl (hts _ w3) (hts _ w1) (hts _ w2) hy hd hR) ⟨fun a U g mk z => ?_, fun U hU hW => ⟨rfl, by rw [hU], by rw [hU]; exact hPc, va_K.moved hW.alike hK, hDc.weaken (fun _ _ _ _ => trivial), fun w hw => nw_warm hw hW (hNw w hw), va_AO.moved hW.alike hAO⟩⟩ rfl rfl hm hst (lv_room hlen) d ⟨hc, hs⟩) hS (fun z _ h => hFc z h) hFc (fun u t H1 locs1 ht hvm hw hB hz1 hk1 hS1 => ?_)
  · rcases List.mem_cons.mp hw with rfl | hw
    · rw [hret]; exact w4
    · exact hw
  · obtain ⟨z0, z1, zP, zK, zD, zN, zO⟩ := z
    exact ⟨z0, z1, zP, va_K.moved (u := U) (U := U.calling g mk a) (Vm.Alike.refl U.vm) zK, zD, fun w hw => va_Nw.same (u := U) (U := U.calling g mk a) (nw_tab hw) rfl (zN w hw), va_AO.moved (u := U) (U := U.calling g mk a) (Vm.Alike.refl U.vm) zO⟩
  · obtain ⟨hP1, hK1, hD1⟩ := hB
    rw [ht] at hP1
    obtain ⟨hP2, hD2⟩ := va_join (wr := ws) (w1 := cl q u) hP hD [ws.length] (List.range ws.length) hC hR2 hnd (fun i hi hi2 => by
      rw [List.mem_range] at hi
      rw [List.mem_singleton] at hi2
      omega) hk1 hFc hP1 hD1
    exact kk u hw H1 locs1 hP2 hD2 hS1
/-- a private one -/
theorem CJ.ctorN {S : Type} {Y : MR} {ci mc ms index q : Nat} {host : String} {df as : List Value} {post : S → Prop} {cl : Nat → S → va_W} (hM : MC l D ca Y ci df as mc ms post cl) (X : CE D ca own cc n p s m args c A) (hm : ls.size = n) (w1 : Cond.methodLinkNest own index Y.1 host ∈ NWS) (w2 : Cond.instanceMethod Y.1 ∈ WS) (w3 : Cond.initialized Y.1.cls ∈ WS) (w4 : Cond.code Y.1 Y.2.1 Y.2.2.1 Y.2.2.2.1 ∈ WS) (hret : Y.2.2.2.1 = none) (hy : Y.1.name = "<init>") (hd : Y.1.cls ≠ "java/lang/invoke/MethodHandle" ∧ Y.1.cls ≠ "java/lang/invoke/VarHandle" ∧ (parseMethodDescriptor Y.1.desc).map (fun d => d.parameters.length) = some as.length) (hR : Y.2.2.2.2.1 + 1 ≤ R.frames ∧ 8 + (Y.2.2.1 + 11) + Y.2.2.2.2.2 ≤ R.locals) {st0 : List Value} (hst : st0 = as.reverse ++ .ref q :: st) (hlen : (st.map fun v => v.category).sum ≤ 8) (d : decode cc pc = .ok (.invokespecial index, 3)) (hc : cells + mc ≤ R.cells) (hs : slots + ms ≤ R.slots)
    (kk : ∀ u : S, post u → CJ p l e R s m args below meth c Q D A (ws ++ cl q u) (cells + mc) (slots + ms) (pc + 3) ls st) : CJ p l e R s m args below meth c Q D A (ws ++ [(q, .inr (ci, df))]) cells slots pc ls st0 := by
  intro H locs hP hD hS
  obtain ⟨hx, hb, hml, hown, hts, hK, hA, hNw, hAO⟩ := X
  have hC : [ws.length].map (fun i => (ws ++ [(q, Sum.inr (ci, df))])[i]?) = [((q, Sum.inr (ci, df)) : Nat × va_E)].map some := by simp
  have hR2 : (List.range ws.length).map (fun i => (ws ++ [((q, Sum.inr (ci, df)) : Nat × va_E)])[i]?) = ws.map some := range_get ws _
  have hPc : va_P D vwCl [(q, .inr (ci, df))] H := fun k x hk => hP (ws.length + k) x (by rw [List.getElem?_append_right (by omega), show ws.length + k - ws.length = k by omega]; exact hk)
  have hFc := va_free (wc := [(q, .inr (ci, df))]) hD hS hA [ws.length] hC
  have hDc := hD.sub (ws' := [(q, .inr (ci, df))]) [ws.length] rfl hC
  have hnd : va_nd (List.range ws.length) = true := by
    have := va_nd_range ws.length 0
    simpa using this
  rw [hret] at w4
  refine va_callv (va_runIN (y := Y.1) (As := as) (rest := st) (n := as.length) ⟨hx, hb, hml, hown, hts⟩ (hM q H.size) ⟨va_cnB as.length hts (gin_ws (fun w hw => ?_)) (by rw [wsY, hret]) rfl rfl (hNw _ w1) (hts _ w3) hd hR, hy, hts _ w2⟩ ⟨fun a U g mk z => ?_, fun U hU hW => ⟨rfl, by rw [hU], by rw [hU]; exact hPc, va_K.moved hW.alike hK, hDc.weaken (fun _ _ _ _ => trivial), fun w hw => nw_warm hw hW (hNw w hw), va_AO.moved hW.alike hAO⟩⟩ rfl rfl hm hst (lv_room hlen) d ⟨hc, hs⟩) hS (fun z _ h => hFc z h) hFc (fun u t H1 locs1 ht hvm hw hB hz1 hk1 hS1 => ?_)
  · rcases List.mem_cons.mp hw with rfl | hw
    · rw [hret]; exact w4
    · exact hw
  · obtain ⟨z0, z1, zP, zK, zD, zN, zO⟩ := z
    exact ⟨z0, z1, zP, va_K.moved (u := U) (U := U.calling g mk a) (Vm.Alike.refl U.vm) zK, zD, fun w hw => va_Nw.same (u := U) (U := U.calling g mk a) (nw_tab hw) rfl (zN w hw), va_AO.moved (u := U) (U := U.calling g mk a) (Vm.Alike.refl U.vm) zO⟩
  · obtain ⟨hP1, hK1, hD1⟩ := hB
    rw [ht] at hP1
    obtain ⟨hP2, hD2⟩ := va_join (wr := ws) (w1 := cl q u) hP hD [ws.length] (List.range ws.length) hC hR2 hnd (fun i hi hi2 => by
      rw [List.mem_range] at hi
      rw [List.mem_singleton] at hi2
      omega) hk1 hFc hP1 hD1
    exact kk u hw H1 locs1 hP2 hD2 hS1
end CT
