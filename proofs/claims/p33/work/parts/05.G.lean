/-! what holds of a frame's start -/
def SF (ad : Nat → Nat) (A : Nat → Prop) (U : State) (H : Heap) : Prop :=
  va_Z "SpiceThrees" "POWERS" "[I" (.ref (ad 1000)) A U H ∧ va_T .int (ad 1000) 9 (fun j => .int (Int32.ofInt (pow3 j))) A U H ∧ ∀ w ∈ NWS, va_Nw w U
theorem SF.move {ad : Nat → Nat} {A B : Nat → Prop} {s U : State} {H1 : Heap} {locs : List Loc} (h : SF ad A s s.heap) (hS : va_S A s.heap H1 locs) (hW : s.WarmedH U.vm) (hAB : ∀ q, B q → A q) : SF ad B U H1 := by
  obtain ⟨h1, h2, h8⟩ := h
  exact ⟨((h1.kept hS.2.1).narrow hAB).moved hW.alike, ((h2.kept hS.2.1).narrow hAB).moved hW.alike, fun w hw => nw_warm hw hW (h8 w hw)⟩
theorem SF.calling {ad : Nat → Nat} {A : Nat → Prop} {U : State} {H : Heap} (g : JFrame) (mk : MethodId) (a : Array Value) (h : SF ad A U H) : SF ad A (U.calling g mk a) H := by
  obtain ⟨h1, h2, h8⟩ := h
  exact ⟨va_Z.moved (u := U) (U := U.calling g mk a) (Vm.Alike.refl U.vm) h1, va_T.moved (u := U) (U := U.calling g mk a) (Vm.Alike.refl U.vm) h2, fun w hw => va_Nw.same (u := U) (U := U.calling g mk a) (nw_tab hw) rfl (h8 w hw)⟩
/-- the world behind a method -/
def WB (sh : List Descr) (D : va_G) (ad : Nat → Nat) (ca : Nat → ClassId) (μ : Mem) (A : Nat → Prop) (t : State) : Prop := va_P D vwCl (wd sh ad ca μ) t.heap ∧ va_K D vwCl (tysC ca) t ∧ va_D A (wd sh ad ca μ) ∧ RM μ
def QQ (sh : List Descr) (D : va_G) (ad : Nat → Nat) (ca : Nat → ClassId) (r : Option PV) (μ : Mem) (A : Nat → Prop) : Array Value → State → Outcome → State → Prop := match r with
  | none => va_Qv (fun _ : Unit => True) (fun _ t => WB sh D ad ca μ A t) A
  | some (.inl x) => va_Qi (fun v (_ : Unit) => v = Int32.ofInt x ∧ inR x) (fun _ t => WB sh D ad ca μ A t) A
  | some (.inr k) => va_Qr (fun _ : Unit => True) (fun _ a t => a = ad k ∧ WB sh D ad ca μ A t) A
def Ent (ad : Nat → Nat) (D : va_G) (ca : Nat → ClassId) (Y : MR) (p : Program) (s : State) (m : MethodId) (args : Array Value) (meth : Method) (c : Code) (A : Nat → Prop) : Prop :=
  p.tables.exec = Jvm.exec ∧ c.code = Y.2.1 ∧ c.maxLocals = Y.2.2.1 ∧ s.vm.findClass Y.1.cls = some m.cls ∧ (∀ w ∈ WS, w.before args s = true) ∧ meth.sig.returnType = Y.2.2.2.1 ∧ meth.locks = false ∧ va_K D vwCl (tysC ca) s ∧ SF ad A s s.heap ∧ ∀ q : Nat, s.heap.size ≤ q → A q
/-- from pc on, with these locals, stack and memory, the method returns r, and leaves the memory μ' -/
def G (sh : List Descr) (l : Launch) (D : va_G) (ad : Nat → Nat) (ca : Nat → ClassId) (Y : MR) (pc : Nat) (L : List (Option PV)) (st : List PV) (μ : Mem) (r : Option PV) (μ' : Mem) : Prop :=
  ∀ (p : Program) (e : Env) (s : State) (m : MethodId) (args : Array Value) (below : List Frame) (meth : Method) (c : Code) (H : Heap) (ls : Array Slot) (locs : List Loc) (A : Nat → Prop),
    Ent ad D ca Y p s m args meth c A → va_P D vwCl (wd sh ad ca μ) H → va_D A (wd sh ad ca μ) → va_S A s.heap H locs → RM μ → Lv ad Y.2.2.1 L ls → RS st →
    W p l e (rmY Y) s m args below meth c H locs 0 0 (MQ below (QQ sh D ad ca r μ' A) args s 0 0 A) (F0 m pc ls (st.map (cv ad)))
def Pcc (sh : List Descr) (D : va_G) (ad : Nat → Nat) (ca : Nat → ClassId) (as : List PV) (μ : Mem) (sz : Nat) : Array Value → State → Prop :=
  va_Pc (as.map (cv ad)) (fun U => U.heap.size = sz ∧ va_P D vwCl (wd sh ad ca μ) U.heap ∧ va_K D vwCl (tysC ca) U ∧ va_D (fun _ => True) (wd sh ad ca μ) ∧ SF ad (va_A (wd sh ad ca μ) sz) U U.heap ∧ RM μ ∧ RS as)
/-- the method's contract -/
def GM (sh : List Descr) (l : Launch) (D : va_G) (ad : Nat → Nat) (ca : Nat → ClassId) (Y : MR) (as : List PV) (μ : Mem) (r : Option PV) (μ' : Mem) : Prop :=
  ∀ sz : Nat, Met l Y.1 (wsY Y) (rmY Y) (Pcc sh D ad ca as μ sz) (QQ sh D ad ca r μ' (va_A (wd sh ad ca μ) sz)) 0 0 (va_A (wd sh ad ca μ) sz)
theorem Pcc_blind (sh : List Descr) (D : va_G) (ad : Nat → Nat) (ca : Nat → ClassId) (as : List PV) (μ : Mem) (sz : Nat) : FrameBlind (Pcc sh D ad ca as μ sz) := fun a U g mk q => by
  obtain ⟨q0, q1, qP, qK, qD, qS, qM⟩ := q
  exact ⟨q0, q1, qP, va_K.moved (u := U) (U := U.calling g mk a) (Vm.Alike.refl U.vm) qK, qD, SF.calling g mk a qS, qM⟩
theorem cat_sum (ad : Nat → Nat) (as : List PV) : ((as.map (cv ad)).map fun v => v.category).sum = as.length := by
  induction as with
  | nil => rfl
  | cons a as ih => rw [List.map_cons, List.map_cons, List.sum_cons, ih, cv_cat, List.length_cons]; omega
theorem sl_len (ad : Nat → Nat) (as : List PV) : (lg_sl (as.map (cv ad))).length = as.length := by
  induction as with
  | nil => rfl
  | cons a as ih =>
    have e : lg_sl (cv ad a :: as.map (cv ad)) = [Slot.val (cv ad a)] ++ lg_sl (as.map (cv ad)) := by simp [lg_sl, cv_cat]
    rw [List.map_cons, e, List.length_append, ih]
    simp
    omega
theorem args_lvl (ad : Nat → Nat) (as : List PV) (n : Nat) : ∀ i, lvl ad (as.map some ++ List.replicate n none) i = lv_args i (as.map (cv ad)) := by
  induction as with
  | nil =>
    intro i
    show lvl ad (List.replicate n none) i = []
    induction n generalizing i with
    | zero => rfl
    | succ n ih => exact ih (i + 1)
  | cons a as ih =>
    intro i
    have e : lv_args i (cv ad a :: as.map (cv ad)) = (i, cv ad a) :: lv_args (i + 1) (as.map (cv ad)) := by rw [lv_args, cv_cat]; rfl
    rw [List.map_cons, List.map_cons, e, ← ih (i + 1)]
    rfl
/-- a method's contract out of its walk -/
theorem GM.of {sh : List Descr} {l : Launch} {D : va_G} {ad : Nat → Nat} {ca : Nat → ClassId} {Y : MR} {as : List PV} {μ μ' : Mem} {r : Option PV} {L : List (Option PV)} (hy : plainName Y.1.cls = true) (hL : L = as.map some ++ List.replicate (Y.2.2.1 - as.length) none) (hn : as.length ≤ Y.2.2.1)
    (h : G sh l D ad ca Y 0 L [] μ r μ') : GM sh l D ad ca Y as μ r μ' := by
  intro sz
  refine Met.ofW (cc := Y.2.1) (maxL := Y.2.2.1) (ret := Y.2.2.2.1) hy rfl ?_
  intro p e s m args below meth c s₁ B hml hv
  obtain ⟨rfl, hsz, hP, hK, hD0, hSF, hM, hR⟩ := hv
  have hts := atoms_spec (ws := wsY Y) B.pre
  have hown : s.vm.findClass Y.1.cls = some m.cls := findClass_of_methodNamed B.named
  subst hsz
  have hD := hD0.self (sz := s.heap.size)
  have hl := lv_entry (as.map (cv ad)) (n := Y.2.2.1) (by rw [sl_len]; exact hn)
  rw [lg_entry_eq]
  generalize (lg_sl (as.map (cv ad)) ++ List.replicate (Y.2.2.1 - (lg_sl (as.map (cv ad))).length) Slot.unset).toArray = ls at hl ⊢
  refine h p e s m _ below meth c s.heap ls [] _ ⟨B.exec, B.bytes, hml, hown, fun w hw => hts w (List.mem_cons_of_mem _ hw), B.returns, B.notSynchronized, hK, hSF, fun q hq => Or.inr hq⟩ hP hD va_S.rf hM ⟨?_, ?_, ?_⟩ RS_nil
  · rw [hL]; simp; omega
  · rw [hL, args_lvl]; exact hl
  · intro v hv
    rw [hL] at hv
    rcases List.mem_append.mp hv with h | h
    · obtain ⟨w, hw, e⟩ := List.mem_map.mp h
      cases e
      exact hR v hw
    · have := List.eq_of_mem_replicate h
      cases this
section GG
variable {sh : List Descr} {l : Launch} {D : va_G} {ad : Nat → Nat} {ca : Nat → ClassId} {Y : MR} {pc : Nat} {L : List (Option PV)} {st : List PV} {μ μ' : Mem} {r : Option PV}
theorem G.iconst {n : Int} (d : decode Y.2.1 pc = .ok (.iconst n, 1)) (hn : inR n) (k : G sh l D ad ca Y (pc + 1) L (.inl n :: st) μ r μ') : G sh l D ad ca Y pc L st μ r μ' :=
  fun p e s m args below meth c H ls locs A E hP hD hS hM hL hR => lv_iconst E.1 E.2.1 d rfl (k p e s m args below meth c H ls locs A E hP hD hS hM hL (RS_cons hn hR))
theorem G.bipush {n : Int} (d : decode Y.2.1 pc = .ok (.bipush n, 2)) (hn : inR n ∧ (Int8.ofInt n).toInt32 = Int32.ofInt n) (k : G sh l D ad ca Y (pc + 2) L (.inl n :: st) μ r μ') : G sh l D ad ca Y pc L st μ r μ' :=
  fun p e s m args below meth c H ls locs A E hP hD hS hM hL hR => lv_bipush E.1 E.2.1 d hn.2 (k p e s m args below meth c H ls locs A E hP hD hS hM hL (RS_cons hn.1 hR))
theorem G.sipush {n : Int} (d : decode Y.2.1 pc = .ok (.sipush n, 3)) (hn : inR n ∧ (Int16.ofInt n).toInt32 = Int32.ofInt n) (k : G sh l D ad ca Y (pc + 3) L (.inl n :: st) μ r μ') : G sh l D ad ca Y pc L st μ r μ' :=
  fun p e s m args below meth c H ls locs A E hP hD hS hM hL hR => lv_sipush E.1 E.2.1 d hn.2 (k p e s m args below meth c H ls locs A E hP hD hS hM hL (RS_cons hn.1 hR))
theorem G.ldcI {n : Int} {index : Nat} (d : decode Y.2.1 pc = .ok (.ldc index, 2)) (hw : Cond.constant Y.1.cls index (Int32.ofInt n) ∈ WS) (hn : inR n) (k : G sh l D ad ca Y (pc + 2) L (.inl n :: st) μ r μ') : G sh l D ad ca Y pc L st μ r μ' :=
  fun p e s m args below meth c H ls locs A E hP hD hS hM hL hR => lv_ldc E.1 E.2.1 E.2.2.2.1 (E.2.2.2.2.1 _ hw) d (k p e s m args below meth c H ls locs A E hP hD hS hM hL (RS_cons hn hR))
theorem G.iload_n {j : Fin 4} {i : Nat} {x : Int} (d : decode Y.2.1 pc = .ok (.iload_n j, 1)) (hi : (j : Nat) = i) (hx : L[i]? = some (some (.inl x))) (k : G sh l D ad ca Y (pc + 1) L (.inl x :: st) μ r μ') : G sh l D ad ca Y pc L st μ r μ' :=
  fun p e s m args below meth c H ls locs A E hP hD hS hM hL hR => lv_iload_n E.1 E.2.1 d hi (hL.get hx) (k p e s m args below meth c H ls locs A E hP hD hS hM hL (RS_cons (hL.pr hx) hR))
theorem G.iload {i : Nat} {x : Int} (d : decode Y.2.1 pc = .ok (.iload i, 2)) (hx : L[i]? = some (some (.inl x))) (k : G sh l D ad ca Y (pc + 2) L (.inl x :: st) μ r μ') : G sh l D ad ca Y pc L st μ r μ' :=
  fun p e s m args below meth c H ls locs A E hP hD hS hM hL hR => lv_iload E.1 E.2.1 d (hL.get hx) (k p e s m args below meth c H ls locs A E hP hD hS hM hL (RS_cons (hL.pr hx) hR))
theorem G.aload_n {j : Fin 4} {i : Nat} {x : Nat} (d : decode Y.2.1 pc = .ok (.aload_n j, 1)) (hi : (j : Nat) = i) (hx : L[i]? = some (some (.inr x))) (k : G sh l D ad ca Y (pc + 1) L (.inr x :: st) μ r μ') : G sh l D ad ca Y pc L st μ r μ' :=
  fun p e s m args below meth c H ls locs A E hP hD hS hM hL hR => lv_aload_n E.1 E.2.1 d hi (hL.get hx) (k p e s m args below meth c H ls locs A E hP hD hS hM hL (RS_cons trivial hR))
theorem G.aload {i : Nat} {x : Nat} (d : decode Y.2.1 pc = .ok (.aload i, 2)) (hx : L[i]? = some (some (.inr x))) (k : G sh l D ad ca Y (pc + 2) L (.inr x :: st) μ r μ') : G sh l D ad ca Y pc L st μ r μ' :=
  fun p e s m args below meth c H ls locs A E hP hD hS hM hL hR => lv_aload E.1 E.2.1 d (hL.get hx) (k p e s m args below meth c H ls locs A E hP hD hS hM hL (RS_cons trivial hR))
theorem G.istore_n {j : Fin 4} {i : Nat} {x : Int} (d : decode Y.2.1 pc = .ok (.istore_n j, 1)) (hi : (j : Nat) = i) (hn : i < Y.2.2.1) (k : G sh l D ad ca Y (pc + 1) (L.set i (some (.inl x))) st μ r μ') : G sh l D ad ca Y pc L (.inl x :: st) μ r μ' :=
  fun p e s m args below meth c H ls locs A E hP hD hS hM hL hR => lv_istore_n E.1 E.2.1 d hi hL.2.1 hn rfl (fun ls' h' => k p e s m args below meth c H ls' locs A E hP hD hS hM (hL.upd (v := .inl x) (RS_hd hR) h') (RS_tl hR))
theorem G.istore {i : Nat} {x : Int} (d : decode Y.2.1 pc = .ok (.istore i, 2)) (hn : i < Y.2.2.1) (k : G sh l D ad ca Y (pc + 2) (L.set i (some (.inl x))) st μ r μ') : G sh l D ad ca Y pc L (.inl x :: st) μ r μ' :=
  fun p e s m args below meth c H ls locs A E hP hD hS hM hL hR => lv_istore E.1 E.2.1 d hL.2.1 hn rfl (fun ls' h' => k p e s m args below meth c H ls' locs A E hP hD hS hM (hL.upd (v := .inl x) (RS_hd hR) h') (RS_tl hR))
theorem G.astore_n {j : Fin 4} {i : Nat} {x : Nat} (d : decode Y.2.1 pc = .ok (.astore_n j, 1)) (hi : (j : Nat) = i) (hn : i < Y.2.2.1) (k : G sh l D ad ca Y (pc + 1) (L.set i (some (.inr x))) st μ r μ') : G sh l D ad ca Y pc L (.inr x :: st) μ r μ' :=
  fun p e s m args below meth c H ls locs A E hP hD hS hM hL hR => lv_astore_n E.1 E.2.1 d hi hL.2.1 hn rfl (fun ls' h' => k p e s m args below meth c H ls' locs A E hP hD hS hM (hL.upd (v := .inr x) (RS_hd hR) h') (RS_tl hR))
theorem G.iinc {i : Nat} {n x : Int} (d : decode Y.2.1 pc = .ok (.iinc i n, 3)) (hx : L[i]? = some (some (.inl x))) (hn : i < Y.2.2.1) (k : G sh l D ad ca Y (pc + 3) (L.set i (some (.inl (w32 (x + n))))) st μ r μ') : G sh l D ad ca Y pc L st μ r μ' :=
  fun p e s m args below meth c H ls locs A E hP hD hS hM hL hR => by
    obtain ⟨q, hq⟩ := hL.idx hx
    exact lv_iinc E.1 E.2.1 d hL.2.1 hq (v := Int32.ofInt (w32 (x + n))) (by rw [oi_w32, Int32.ofInt_add]) hn rfl (fun ls' h' => k p e s m args below meth c H ls' locs A E hP hD hS hM (hL.upd (v := .inl (w32 (x + n))) (w32_in _) h') hR)
theorem G.dup {v : PV} (d : decode Y.2.1 pc = .ok (.dup, 1)) (k : G sh l D ad ca Y (pc + 1) L (v :: v :: st) μ r μ') : G sh l D ad ca Y pc L (v :: st) μ r μ' :=
  fun p e s m args below meth c H ls locs A E hP hD hS hM hL hR => lv_dup E.1 E.2.1 d (cv_cat ad v) (k p e s m args below meth c H ls locs A E hP hD hS hM hL (RS_cons (RS_hd hR) hR))
theorem G.pop {v : PV} (d : decode Y.2.1 pc = .ok (.pop, 1)) (k : G sh l D ad ca Y (pc + 1) L st μ r μ') : G sh l D ad ca Y pc L (v :: st) μ r μ' :=
  fun p e s m args below meth c H ls locs A E hP hD hS hM hL hR => lv_pop E.1 E.2.1 d (cv_cat ad v) (k p e s m args below meth c H ls locs A E hP hD hS hM hL (RS_tl hR))
theorem G.dup2 {v w : PV} (d : decode Y.2.1 pc = .ok (.dup2, 1)) (k : G sh l D ad ca Y (pc + 1) L (v :: w :: v :: w :: st) μ r μ') : G sh l D ad ca Y pc L (v :: w :: st) μ r μ' :=
  fun p e s m args below meth c H ls locs A E hP hD hS hM hL hR => lv_dup2_11 E.1 E.2.1 d (cv_cat ad v) (cv_cat ad w) (k p e s m args below meth c H ls locs A E hP hD hS hM hL (RS_cons (RS_hd hR) (RS_cons (RS_hd (RS_tl hR)) hR)))
theorem G.iadd {x y : Int} (d : decode Y.2.1 pc = .ok (.iadd, 1)) (k : G sh l D ad ca Y (pc + 1) L (.inl (w32 (x + y)) :: st) μ r μ') : G sh l D ad ca Y pc L (.inl y :: .inl x :: st) μ r μ' :=
  fun p e s m args below meth c H ls locs A E hP hD hS hM hL hR => lv_iadd E.1 E.2.1 d (by
    have h := k p e s m args below meth c H ls locs A E hP hD hS hM hL (RS_cons (w32_in _) (RS_tl (RS_tl hR)))
    simp only [List.map_cons, cv, oi_w32, Int32.ofInt_add] at h
    exact h)
theorem G.isub {x y : Int} (d : decode Y.2.1 pc = .ok (.isub, 1)) (k : G sh l D ad ca Y (pc + 1) L (.inl (w32 (x - y)) :: st) μ r μ') : G sh l D ad ca Y pc L (.inl y :: .inl x :: st) μ r μ' :=
  fun p e s m args below meth c H ls locs A E hP hD hS hM hL hR => lv_isub E.1 E.2.1 d (by
    have h := k p e s m args below meth c H ls locs A E hP hD hS hM hL (RS_cons (w32_in _) (RS_tl (RS_tl hR)))
    simp only [List.map_cons, cv, oi_w32, Int32.ofInt_sub] at h
    exact h)
theorem G.imul {x y : Int} (d : decode Y.2.1 pc = .ok (.imul, 1)) (k : G sh l D ad ca Y (pc + 1) L (.inl (w32 (x * y)) :: st) μ r μ') : G sh l D ad ca Y pc L (.inl y :: .inl x :: st) μ r μ' :=
  fun p e s m args below meth c H ls locs A E hP hD hS hM hL hR => lv_imul E.1 E.2.1 d (by
    have h := k p e s m args below meth c H ls locs A E hP hD hS hM hL (RS_cons (w32_in _) (RS_tl (RS_tl hR)))
    simp only [List.map_cons, cv, oi_w32, Int32.ofInt_mul] at h
    exact h)
theorem oi_ne0 {y : Int} (hy : inR y) (h : y ≠ 0) : ¬ Int32.ofInt y = 0 := fun e => h ((oi_inj hy (by decide : inR 0)).mp e)
theorem G.idiv {x y : Int} (d : decode Y.2.1 pc = .ok (.idiv, 1)) (hy : y ≠ 0) (k : G sh l D ad ca Y (pc + 1) L (.inl (w32 (x.tdiv y)) :: st) μ r μ') : G sh l D ad ca Y pc L (.inl y :: .inl x :: st) μ r μ' :=
  fun p e s m args below meth c H ls locs A E hP hD hS hM hL hR => lv_idiv E.1 E.2.1 d (oi_ne0 (RS_hd hR) hy) (by
    have h := k p e s m args below meth c H ls locs A E hP hD hS hM hL (RS_cons (w32_in _) (RS_tl (RS_tl hR)))
    rw [oi_div (RS_hd (RS_tl hR)) (RS_hd hR)]
    exact h)
theorem G.irem {x y : Int} (d : decode Y.2.1 pc = .ok (.irem, 1)) (hy : y ≠ 0) (k : G sh l D ad ca Y (pc + 1) L (.inl (x.tmod y) :: st) μ r μ') : G sh l D ad ca Y pc L (.inl y :: .inl x :: st) μ r μ' :=
  fun p e s m args below meth c H ls locs A E hP hD hS hM hL hR => lv_irem E.1 E.2.1 d (oi_ne0 (RS_hd hR) hy) (by
    have h := k p e s m args below meth c H ls locs A E hP hD hS hM hL (RS_cons (tmod_in (RS_hd (RS_tl hR))) (RS_tl (RS_tl hR)))
    rw [oi_rem (RS_hd (RS_tl hR)) (RS_hd hR)]
    exact h)
theorem G.iand {x y : Int} (d : decode Y.2.1 pc = .ok (.iand, 1)) (k : G sh l D ad ca Y (pc + 1) L (.inl (and32 x y) :: st) μ r μ') : G sh l D ad ca Y pc L (.inl y :: .inl x :: st) μ r μ' :=
  fun p e s m args below meth c H ls locs A E hP hD hS hM hL hR => lv_iand E.1 E.2.1 d (by
    have h := k p e s m args below meth c H ls locs A E hP hD hS hM hL (RS_cons (to_in _) (RS_tl (RS_tl hR)))
    simp only [List.map_cons, cv, and32, Int32.ofInt_toInt] at h
    exact h)
theorem G.ior {x y : Int} (d : decode Y.2.1 pc = .ok (.ior, 1)) (k : G sh l D ad ca Y (pc + 1) L (.inl (or32 x y) :: st) μ r μ') : G sh l D ad ca Y pc L (.inl y :: .inl x :: st) μ r μ' :=
  fun p e s m args below meth c H ls locs A E hP hD hS hM hL hR => lv_ior E.1 E.2.1 d (by
    have h := k p e s m args below meth c H ls locs A E hP hD hS hM hL (RS_cons (to_in _) (RS_tl (RS_tl hR)))
    simp only [List.map_cons, cv, or32, Int32.ofInt_toInt] at h
    exact h)
theorem G.ishl {x y : Int} (d : decode Y.2.1 pc = .ok (.ishl, 1)) (k : G sh l D ad ca Y (pc + 1) L (.inl (shl32 x y) :: st) μ r μ') : G sh l D ad ca Y pc L (.inl y :: .inl x :: st) μ r μ' :=
  fun p e s m args below meth c H ls locs A E hP hD hS hM hL hR => lv_ishl E.1 E.2.1 d (by
    have h := k p e s m args below meth c H ls locs A E hP hD hS hM hL (RS_cons (to_in _) (RS_tl (RS_tl hR)))
    simp only [List.map_cons, cv, shl32, Int32.ofInt_toInt] at h
    exact h)
theorem G.iushr {x y : Int} (d : decode Y.2.1 pc = .ok (.iushr, 1)) (k : G sh l D ad ca Y (pc + 1) L (.inl (ushr32 x y) :: st) μ r μ') : G sh l D ad ca Y pc L (.inl y :: .inl x :: st) μ r μ' :=
  fun p e s m args below meth c H ls locs A E hP hD hS hM hL hR => lv_iushr E.1 E.2.1 d rfl (by
    have h := k p e s m args below meth c H ls locs A E hP hD hS hM hL (RS_cons (to_in _) (RS_tl (RS_tl hR)))
    simp only [List.map_cons, cv, ushr32, Int32.ofInt_toInt] at h
    exact h)
theorem G.i2b {x : Int} (d : decode Y.2.1 pc = .ok (.i2b, 1)) (k : G sh l D ad ca Y (pc + 1) L (.inl (n8 x) :: st) μ r μ') : G sh l D ad ca Y pc L (.inl x :: st) μ r μ' :=
  fun p e s m args below meth c H ls locs A E hP hD hS hM hL hR => lv_i2b E.1 E.2.1 d (v := Int32.ofInt (n8 x)) (by rw [n8_def, Int32.ofInt_toInt]) (k p e s m args below meth c H ls locs A E hP hD hS hM hL (RS_cons (by show inR (n8 x); rw [n8_def]; exact to_in _) (RS_tl hR)))
theorem G.i2s {x : Int} (d : decode Y.2.1 pc = .ok (.i2s, 1)) (k : G sh l D ad ca Y (pc + 1) L (.inl (n16 x) :: st) μ r μ') : G sh l D ad ca Y pc L (.inl x :: st) μ r μ' :=
  fun p e s m args below meth c H ls locs A E hP hD hS hM hL hR => lv_i2s E.1 E.2.1 d (v := Int32.ofInt (n16 x)) (by rw [n16_def, Int32.ofInt_toInt]) (k p e s m args below meth c H ls locs A E hP hD hS hM hL (RS_cons (by show inR (n16 x); rw [n16_def]; exact to_in _) (RS_tl hR)))
theorem G.i2c {x : Int} (d : decode Y.2.1 pc = .ok (.i2c, 1)) (k : G sh l D ad ca Y (pc + 1) L (.inl (nch x) :: st) μ r μ') : G sh l D ad ca Y pc L (.inl x :: st) μ r μ' :=
  fun p e s m args below meth c H ls locs A E hP hD hS hM hL hR => lv_i2c E.1 E.2.1 d (v := Int32.ofInt (nch x)) (by rw [nch_def, Int32.ofInt_toInt]) (k p e s m args below meth c H ls locs A E hP hD hS hM hL (RS_cons (by show inR (nch x); rw [nch_def]; exact to_in _) (RS_tl hR)))
theorem G.goto {off : Int} (tgt : Nat) (d : decode Y.2.1 pc = .ok (.goto off, 3)) (ht : (pc : Int) + off = (tgt : Int)) (k : G sh l D ad ca Y tgt L st μ r μ') : G sh l D ad ca Y pc L st μ r μ' :=
  fun p e s m args below meth c H ls locs A E hP hD hS hM hL hR => lv_goto E.1 E.2.1 d ht (k p e s m args below meth c H ls locs A E hP hD hS hM hL hR)
theorem G.icmp_eq {x y off : Int} (tgt : Nat) (d : decode Y.2.1 pc = .ok (.if_icmp .eq off, 3)) (ht : (pc : Int) + off = (tgt : Int)) (kt : x = y → G sh l D ad ca Y tgt L st μ r μ') (kf : ¬ x = y → G sh l D ad ca Y (pc + 3) L st μ r μ') : G sh l D ad ca Y pc L (.inl y :: .inl x :: st) μ r μ' :=
  fun p e s m args below meth c H ls locs A E hP hD hS hM hL hR => lv_icmp_eq E.1 E.2.1 d ht (fun h => kt ((oi_inj (RS_hd (RS_tl hR)) (RS_hd hR)).mp h) p e s m args below meth c H ls locs A E hP hD hS hM hL (RS_tl (RS_tl hR))) (fun h => kf (fun h2 => h (by rw [h2])) p e s m args below meth c H ls locs A E hP hD hS hM hL (RS_tl (RS_tl hR)))
theorem G.icmp_ne {x y off : Int} (tgt : Nat) (d : decode Y.2.1 pc = .ok (.if_icmp .ne off, 3)) (ht : (pc : Int) + off = (tgt : Int)) (kt : ¬ x = y → G sh l D ad ca Y tgt L st μ r μ') (kf : x = y → G sh l D ad ca Y (pc + 3) L st μ r μ') : G sh l D ad ca Y pc L (.inl y :: .inl x :: st) μ r μ' :=
  fun p e s m args below meth c H ls locs A E hP hD hS hM hL hR => lv_icmp_ne E.1 E.2.1 d ht (fun h => kt (fun h2 => h (by rw [h2])) p e s m args below meth c H ls locs A E hP hD hS hM hL (RS_tl (RS_tl hR))) (fun h => kf ((oi_inj (RS_hd (RS_tl hR)) (RS_hd hR)).mp h) p e s m args below meth c H ls locs A E hP hD hS hM hL (RS_tl (RS_tl hR)))
theorem G.icmp_lt {x y off : Int} (tgt : Nat) (d : decode Y.2.1 pc = .ok (.if_icmp .lt off, 3)) (ht : (pc : Int) + off = (tgt : Int)) (kt : x < y → G sh l D ad ca Y tgt L st μ r μ') (kf : ¬ x < y → G sh l D ad ca Y (pc + 3) L st μ r μ') : G sh l D ad ca Y pc L (.inl y :: .inl x :: st) μ r μ' :=
  fun p e s m args below meth c H ls locs A E hP hD hS hM hL hR => lv_icmp_lt E.1 E.2.1 d ht (fun h => kt ((oi_lt (RS_hd (RS_tl hR)) (RS_hd hR)).mp h) p e s m args below meth c H ls locs A E hP hD hS hM hL (RS_tl (RS_tl hR))) (fun h => kf (fun h2 => h ((oi_lt (RS_hd (RS_tl hR)) (RS_hd hR)).mpr h2)) p e s m args below meth c H ls locs A E hP hD hS hM hL (RS_tl (RS_tl hR)))
theorem G.icmp_ge {x y off : Int} (tgt : Nat) (d : decode Y.2.1 pc = .ok (.if_icmp .ge off, 3)) (ht : (pc : Int) + off = (tgt : Int)) (kt : y ≤ x → G sh l D ad ca Y tgt L st μ r μ') (kf : ¬ y ≤ x → G sh l D ad ca Y (pc + 3) L st μ r μ') : G sh l D ad ca Y pc L (.inl y :: .inl x :: st) μ r μ' :=
  fun p e s m args below meth c H ls locs A E hP hD hS hM hL hR => lv_icmp_ge E.1 E.2.1 d ht (fun h => kt ((oi_le (RS_hd hR) (RS_hd (RS_tl hR))).mp h) p e s m args below meth c H ls locs A E hP hD hS hM hL (RS_tl (RS_tl hR))) (fun h => kf (fun h2 => h ((oi_le (RS_hd hR) (RS_hd (RS_tl hR))).mpr h2)) p e s m args below meth c H ls locs A E hP hD hS hM hL (RS_tl (RS_tl hR)))
theorem G.icmp_gt {x y off : Int} (tgt : Nat) (d : decode Y.2.1 pc = .ok (.if_icmp .gt off, 3)) (ht : (pc : Int) + off = (tgt : Int)) (kt : y < x → G sh l D ad ca Y tgt L st μ r μ') (kf : ¬ y < x → G sh l D ad ca Y (pc + 3) L st μ r μ') : G sh l D ad ca Y pc L (.inl y :: .inl x :: st) μ r μ' :=
  fun p e s m args below meth c H ls locs A E hP hD hS hM hL hR => lv_icmp_gt E.1 E.2.1 d ht (fun h => kt ((oi_lt (RS_hd hR) (RS_hd (RS_tl hR))).mp h) p e s m args below meth c H ls locs A E hP hD hS hM hL (RS_tl (RS_tl hR))) (fun h => kf (fun h2 => h ((oi_lt (RS_hd hR) (RS_hd (RS_tl hR))).mpr h2)) p e s m args below meth c H ls locs A E hP hD hS hM hL (RS_tl (RS_tl hR)))
theorem G.icmp_le {x y off : Int} (tgt : Nat) (d : decode Y.2.1 pc = .ok (.if_icmp .le off, 3)) (ht : (pc : Int) + off = (tgt : Int)) (kt : x ≤ y → G sh l D ad ca Y tgt L st μ r μ') (kf : ¬ x ≤ y → G sh l D ad ca Y (pc + 3) L st μ r μ') : G sh l D ad ca Y pc L (.inl y :: .inl x :: st) μ r μ' :=
  fun p e s m args below meth c H ls locs A E hP hD hS hM hL hR => lv_icmp_le E.1 E.2.1 d ht (fun h => kt ((oi_le (RS_hd (RS_tl hR)) (RS_hd hR)).mp h) p e s m args below meth c H ls locs A E hP hD hS hM hL (RS_tl (RS_tl hR))) (fun h => kf (fun h2 => h ((oi_le (RS_hd (RS_tl hR)) (RS_hd hR)).mpr h2)) p e s m args below meth c H ls locs A E hP hD hS hM hL (RS_tl (RS_tl hR)))
theorem G.if_lt {x off : Int} (tgt : Nat) (d : decode Y.2.1 pc = .ok (.ifCond .lt off, 3)) (ht : (pc : Int) + off = (tgt : Int)) (kt : x < 0 → G sh l D ad ca Y tgt L st μ r μ') (kf : ¬ x < 0 → G sh l D ad ca Y (pc + 3) L st μ r μ') : G sh l D ad ca Y pc L (.inl x :: st) μ r μ' :=
  fun p e s m args below meth c H ls locs A E hP hD hS hM hL hR => lv_if_lt E.1 E.2.1 d ht (fun h => kt ((oi_lt (RS_hd hR) (by decide : inR 0)).mp h) p e s m args below meth c H ls locs A E hP hD hS hM hL (RS_tl hR)) (fun h => kf (fun h2 => h ((oi_lt (RS_hd hR) (by decide : inR 0)).mpr h2)) p e s m args below meth c H ls locs A E hP hD hS hM hL (RS_tl hR))
theorem G.if_ge {x off : Int} (tgt : Nat) (d : decode Y.2.1 pc = .ok (.ifCond .ge off, 3)) (ht : (pc : Int) + off = (tgt : Int)) (kt : 0 ≤ x → G sh l D ad ca Y tgt L st μ r μ') (kf : ¬ 0 ≤ x → G sh l D ad ca Y (pc + 3) L st μ r μ') : G sh l D ad ca Y pc L (.inl x :: st) μ r μ' :=
  fun p e s m args below meth c H ls locs A E hP hD hS hM hL hR => lv_if_ge E.1 E.2.1 d ht (fun h => kt ((oi_le (by decide : inR 0) (RS_hd hR)).mp h) p e s m args below meth c H ls locs A E hP hD hS hM hL (RS_tl hR)) (fun h => kf (fun h2 => h ((oi_le (by decide : inR 0) (RS_hd hR)).mpr h2)) p e s m args below meth c H ls locs A E hP hD hS hM hL (RS_tl hR))
theorem G.if_gt {x off : Int} (tgt : Nat) (d : decode Y.2.1 pc = .ok (.ifCond .gt off, 3)) (ht : (pc : Int) + off = (tgt : Int)) (kt : 0 < x → G sh l D ad ca Y tgt L st μ r μ') (kf : ¬ 0 < x → G sh l D ad ca Y (pc + 3) L st μ r μ') : G sh l D ad ca Y pc L (.inl x :: st) μ r μ' :=
  fun p e s m args below meth c H ls locs A E hP hD hS hM hL hR => lv_if_gt E.1 E.2.1 d ht (fun h => kt ((oi_lt (by decide : inR 0) (RS_hd hR)).mp h) p e s m args below meth c H ls locs A E hP hD hS hM hL (RS_tl hR)) (fun h => kf (fun h2 => h ((oi_lt (by decide : inR 0) (RS_hd hR)).mpr h2)) p e s m args below meth c H ls locs A E hP hD hS hM hL (RS_tl hR))
theorem G.if_le {x off : Int} (tgt : Nat) (d : decode Y.2.1 pc = .ok (.ifCond .le off, 3)) (ht : (pc : Int) + off = (tgt : Int)) (kt : x ≤ 0 → G sh l D ad ca Y tgt L st μ r μ') (kf : ¬ x ≤ 0 → G sh l D ad ca Y (pc + 3) L st μ r μ') : G sh l D ad ca Y pc L (.inl x :: st) μ r μ' :=
  fun p e s m args below meth c H ls locs A E hP hD hS hM hL hR => lv_if_le E.1 E.2.1 d ht (fun h => kt ((oi_le (RS_hd hR) (by decide : inR 0)).mp h) p e s m args below meth c H ls locs A E hP hD hS hM hL (RS_tl hR)) (fun h => kf (fun h2 => h ((oi_le (RS_hd hR) (by decide : inR 0)).mpr h2)) p e s m args below meth c H ls locs A E hP hD hS hM hL (RS_tl hR))
theorem G.if_eq {x off : Int} (tgt : Nat) (d : decode Y.2.1 pc = .ok (.ifCond .eq off, 3)) (ht : (pc : Int) + off = (tgt : Int)) (kt : x = 0 → G sh l D ad ca Y tgt L st μ r μ') (kf : ¬ x = 0 → G sh l D ad ca Y (pc + 3) L st μ r μ') : G sh l D ad ca Y pc L (.inl x :: st) μ r μ' :=
  fun p e s m args below meth c H ls locs A E hP hD hS hM hL hR => lv_if_eq E.1 E.2.1 d ht (fun h => kt ((oi_inj (RS_hd hR) (by decide : inR 0)).mp h) p e s m args below meth c H ls locs A E hP hD hS hM hL (RS_tl hR)) (fun h => kf (fun h2 => h ((oi_inj (RS_hd hR) (by decide : inR 0)).mpr h2)) p e s m args below meth c H ls locs A E hP hD hS hM hL (RS_tl hR))
theorem G.if_ne {x off : Int} (tgt : Nat) (d : decode Y.2.1 pc = .ok (.ifCond .ne off, 3)) (ht : (pc : Int) + off = (tgt : Int)) (kt : ¬ x = 0 → G sh l D ad ca Y tgt L st μ r μ') (kf : x = 0 → G sh l D ad ca Y (pc + 3) L st μ r μ') : G sh l D ad ca Y pc L (.inl x :: st) μ r μ' :=
  fun p e s m args below meth c H ls locs A E hP hD hS hM hL hR => lv_if_ne E.1 E.2.1 d ht (fun h => kt (fun h2 => h ((oi_inj (RS_hd hR) (by decide : inR 0)).mpr h2)) p e s m args below meth c H ls locs A E hP hD hS hM hL (RS_tl hR)) (fun h => kf ((oi_inj (RS_hd hR) (by decide : inR 0)).mp h) p e s m args below meth c H ls locs A E hP hD hS hM hL (RS_tl hR))
theorem G.tsOut {dflt lo hi x : Int} {offs : Array Int} {len : Nat} (tgt : Nat) (d : decode Y.2.1 pc = .ok (.tableswitch dflt lo hi offs, len)) (h : x < lo ∨ hi < x) (ht : (pc : Int) + dflt = (tgt : Int)) (k : G sh l D ad ca Y tgt L st μ r μ') : G sh l D ad ca Y pc L (.inl x :: st) μ r μ' :=
  fun p e s m args below meth c H ls locs A E hP hD hS hM hL hR => lv_tableOut E.1 E.2.1 d (by rw [oi_toR (RS_hd hR)]; exact h) ht (k p e s m args below meth c H ls locs A E hP hD hS hM hL (RS_tl hR))
theorem G.tsIn {dflt lo hi x off : Int} {offs : Array Int} {len : Nat} (v : Int) (tgt : Nat) (d : decode Y.2.1 pc = .ok (.tableswitch dflt lo hi offs, len)) (hv : x = v) (h1 : ¬ v < lo) (h2 : ¬ hi < v) (ho : offs[(v - lo).toNat]? = some off) (ht : (pc : Int) + off = (tgt : Int)) (k : G sh l D ad ca Y tgt L st μ r μ') : G sh l D ad ca Y pc L (.inl x :: st) μ r μ' :=
  fun p e s m args below meth c H ls locs A E hP hD hS hM hL hR => lv_tableIn E.1 E.2.1 d (by rw [oi_toR (RS_hd hR), hv]; exact h1) (by rw [oi_toR (RS_hd hR), hv]; exact h2) (by rw [oi_toR (RS_hd hR), hv]; exact ho) ht (k p e s m args below meth c H ls locs A E hP hD hS hM hL (RS_tl hR))
theorem G.iret {x : Int} (d : decode Y.2.1 pc = .ok (.ireturn, 1)) (ht : Y.2.2.2.1 = some .int) : G sh l D ad ca Y pc L (.inl x :: []) μ (some (.inl x)) μ :=
  fun p e s m args below meth c H ls locs A E hP hD hS hM hL hR => W.iret E.1 E.2.1 (E.2.2.2.2.2.1.trans ht) (fun t ht hW => ⟨⟨Int32.ofInt x, (), rfl, ⟨rfl, RS_hd hR⟩, by rw [ht]; exact hP, va_K.moved hW.alike E.2.2.2.2.2.2.2.1, hD, hM⟩, hS.F ht⟩) hS.2.2 d E.2.2.2.2.2.2.1
theorem G.zret {x : Int} (ty : FieldType) (d : decode Y.2.1 pc = .ok (.ireturn, 1)) (ht : Y.2.2.2.1 = some ty) (hn : narrow ty (.int (Int32.ofInt x)) = .int (Int32.ofInt x)) : G sh l D ad ca Y pc L (.inl x :: []) μ (some (.inl x)) μ :=
  fun p e s m args below meth c H ls locs A E hP hD hS hM hL hR => W.zret E.1 E.2.1 (E.2.2.2.2.2.1.trans ht) hn (fun t ht hW => ⟨⟨Int32.ofInt x, (), rfl, ⟨rfl, RS_hd hR⟩, by rw [ht]; exact hP, va_K.moved hW.alike E.2.2.2.2.2.2.2.1, hD, hM⟩, hS.F ht⟩) hS.2.2 d E.2.2.2.2.2.2.1
theorem G.vret (d : decode Y.2.1 pc = .ok (.return_, 1)) (ht : Y.2.2.2.1 = none) : G sh l D ad ca Y pc L [] μ none μ :=
  fun p e s m args below meth c H ls locs A E hP hD hS hM hL hR => W.vret E.1 E.2.1 (E.2.2.2.2.2.1.trans ht) (fun t ht hW => ⟨⟨(), rfl, trivial, by rw [ht]; exact hP, va_K.moved hW.alike E.2.2.2.2.2.2.2.1, hD, hM⟩, hS.F ht⟩) hS.2.2 d E.2.2.2.2.2.2.1
theorem G.aret {k : Nat} (rt : FieldType) (d : decode Y.2.1 pc = .ok (.areturn, 1)) (ht : Y.2.2.2.1 = some rt) (hrt : (∃ n, rt = .object n) ∨ ∃ t, rt = .array t) : G sh l D ad ca Y pc L (.inr k :: []) μ (some (.inr k)) μ :=
  fun p e s m args below meth c H ls locs A E hP hD hS hM hL hR => W.aret E.1 E.2.1 (E.2.2.2.2.2.1.trans ht) hrt (Or.inr ⟨_, rfl⟩) (fun t ht hW => ⟨⟨(), ad k, rfl, trivial, rfl, by rw [ht]; exact hP, va_K.moved hW.alike E.2.2.2.2.2.2.2.1, hD, hM⟩, hS.F ht⟩) hS.2.2 d E.2.2.2.2.2.2.1
/-- a class of the worlds -/
def CK (ci : Nat) (C : String) (T : u_T) (N : Nat) (ty : Nat → FieldType) : Prop := vwCl[ci]? = some (C, T, N) ∧ (∀ w ∈ u_ws C T N, w ∈ WS) ∧ (∀ k, k < N → parseFieldDescriptor (T k).2.2.1 = some (ty k)) ∧ ∀ a, a < N → ∀ b, b < N → a ≠ b → (T a).2.1 ≠ (T b).2.1
theorem G.getI {ci N k index : Nat} {C : String} {T : u_T} {ty : Nat → FieldType} {fs : List (Option Nat)} (ck : CK ci C T N ty) (hs : sh[k]? = some (.inl (ci, fs))) (j : Nat) (hf : fs[j]? = some none) (hj : j < N) (hl : Cond.fieldLink Y.1.cls index (T j).1 (T j).2.1 (T j).2.2.1 ∈ WS) (d : decode Y.2.1 pc = .ok (.getfield index, 3))
    (kk : G sh l D ad ca Y (pc + 3) L (.inl (μ k j) :: st) μ r μ') : G sh l D ad ca Y pc L (.inr k :: st) μ r μ' :=
  fun p e s m args below meth c H ls locs A E hP hD hS hM hL hR => va_get (D := D) E.1 E.2.1 (Ts := WS) E.2.2.2.2.1 ck.2.1 E.2.2.2.1 E.2.2.2.2.2.2.2.1 hP k (wd_get hs) ck.1 j hj (E.2.2.2.2.1 _ hl) (fun _ h => h) (v := .int (Int32.ofInt (μ k j))) (by rw [List.getElem?_mapIdx, hf]; rfl) d (kk p e s m args below meth c H ls locs A E hP hD hS hM hL (RS_cons (hM k j) (RS_tl hR)))
theorem G.getR {ci N k k2 index : Nat} {C : String} {T : u_T} {ty : Nat → FieldType} {fs : List (Option Nat)} (ck : CK ci C T N ty) (hs : sh[k]? = some (.inl (ci, fs))) (j : Nat) (hf : fs[j]? = some (some k2)) (hj : j < N) (hl : Cond.fieldLink Y.1.cls index (T j).1 (T j).2.1 (T j).2.2.1 ∈ WS) (d : decode Y.2.1 pc = .ok (.getfield index, 3))
    (kk : G sh l D ad ca Y (pc + 3) L (.inr k2 :: st) μ r μ') : G sh l D ad ca Y pc L (.inr k :: st) μ r μ' :=
  fun p e s m args below meth c H ls locs A E hP hD hS hM hL hR => va_get (D := D) E.1 E.2.1 (Ts := WS) E.2.2.2.2.1 ck.2.1 E.2.2.2.1 E.2.2.2.2.2.2.2.1 hP k (wd_get hs) ck.1 j hj (E.2.2.2.2.1 _ hl) (fun _ h => h) (v := .ref (ad k2)) (by rw [List.getElem?_mapIdx, hf]; rfl) d (kk p e s m args below meth c H ls locs A E hP hD hS hM hL (RS_cons trivial (RS_tl hR)))
theorem G.putI {ci N k index : Nat} {C : String} {T : u_T} {ty : Nat → FieldType} {fs : List (Option Nat)} {x : Int} (ck : CK ci C T N ty) (hs : sh[k]? = some (.inl (ci, fs))) (j : Nat) (hf : fs[j]? = some none) (hj : j < N) (hl : Cond.fieldLink Y.1.cls index (T j).1 (T j).2.1 (T j).2.2.1 ∈ WS) (hfin : (T j).2.2.2 = false) (hn : narrow (ty j) (.int (Int32.ofInt x)) = .int (Int32.ofInt x)) (hfit : fits (ty j) (.int (Int32.ofInt x)) = true) (d : decode Y.2.1 pc = .ok (.putfield index, 3))
    (kk : G sh l D ad ca Y (pc + 3) L st (mst μ k j x) r μ') : G sh l D ad ca Y pc L (.inl x :: .inr k :: st) μ r μ' :=
  fun p e s m args below meth c H ls locs A E hP hD hS hM hL hR => va_put (D := D) E.1 E.2.1 (Ts := WS) E.2.2.2.2.1 ck.2.1 ty ck.2.2.1 ck.2.2.2 E.2.2.2.1 E.2.2.2.2.2.2.2.1 hP hD hS k (wd_get hs) ck.1 j hj (E.2.2.2.2.1 _ hl) (fun _ h => h) hfin (ck.2.2.1 j hj) hn hfit (by rw [List.length_mapIdx]; exact (List.getElem?_eq_some_iff.mp hf).1) d
    (fun H1 locs1 hP1 hD1 hS1 => by
      have e1 := wd_fld (ad := ad) (ca := ca) (μ := μ) (x := x) hs hf
      replace hP1 := e1 ▸ hP1
      replace hD1 := e1 ▸ hD1
      exact kk p e s m args below meth c H1 ls locs1 A E hP1 hD1 hS1 (RM_mst hM k j (RS_hd hR)) hL (RS_tl (RS_tl hR)))
end GG
