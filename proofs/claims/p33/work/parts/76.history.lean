/-! the constructor of History -/
theorem cq24 : Cond.initialized RX4 ∈ WS := mw 24 (by decide +kernel) rfl
theorem cq89 : Cond.instantiable RX4 10 ∈ WS := mw 89 (by decide +kernel) rfl
theorem cq91 : Cond.instanceMethod yX4_init ∈ WS := mw 91 (by decide +kernel) rfl
theorem cq92 : Cond.code yX4_init cX4_init 2 none ∈ WS := mw 92 (by decide +kernel) rfl
theorem cq152 : Cond.methodLink RX2 3 Lib.objectInit ∈ WS := mw 152 (by decide +kernel) rfl
theorem cq153 : Cond.classLink RX2 11 RX4 ∈ WS := mw 153 (by decide +kernel) rfl
theorem cq155 : Cond.methodLink RX2 24 yX4_init ∈ WS := mw 155 (by decide +kernel) rfl
theorem cq156 : Cond.fieldLink RX2 13 "SpiceThrees$History" "rows" "[LSpiceThrees$Shop;" ∈ WS := mw 156 (by decide +kernel) rfl
theorem cq157 : Cond.fieldLink RX2 17 "SpiceThrees$History" "next" "I" ∈ WS := mw 157 (by decide +kernel) rfl
theorem cq158 : Cond.fieldLink RX2 21 "SpiceThrees$History" "size" "I" ∈ WS := mw 158 (by decide +kernel) rfl
def hisC (ca : Nat → ClassId) (q : Nat) (u : Nat → Nat) : va_W := [(q, .inr (2, [.ref (u 0), .int (Int32.ofInt 0), .int (Int32.ofInt 0)])), (u 0, .inl (ca 5, 5, .inr (.inr (.inr (.inr (va_up (va_up (va_up (va_up (va_up (fun _ => none) 0 (some (u 1))) 1 (some (u 8))) 2 (some (u 15))) 3 (some (u 22))) 4 (some (u 29))))))))] ++ shopC ca (u 1) (fun k => u (2 + k)) ++ shopC ca (u 8) (fun k => u (9 + k)) ++ shopC ca (u 15) (fun k => u (16 + k)) ++ shopC ca (u 22) (fun k => u (23 + k)) ++ shopC ca (u 29) (fun k => u (30 + k))
def YX2_init : MR := (yX2_init, cX2_init, 2, none, 2, 33)
set_option maxHeartbeats 4000000 in
set_option maxRecDepth 100000 in
theorem c_X2_init {l : Launch} {D : va_G} {ca : Nat → ClassId} : MC l D ca YX2_init 2 [.null, .int (Int32.ofInt 0), .int (Int32.ofInt 0)] [] 36 335 (fun _ => True : (Nat → Nat) → Prop) (hisC ca) := by
  intro q sz
  refine Met.ofW (cc := cX2_init) (maxL := 2) (ret := none) (by decide) rfl ?_
  intro p e s m args below meth c s₁ B hml hv
  obtain ⟨rfl, hsz, hP, hK, hD0, hNw, hAO⟩ := hv
  have hr := B.returns
  have hlocks := B.notSynchronized
  have hts0 := atoms_spec (ws := wsY YX2_init) B.pre
  have hin : meth.name = "<init>" := (name_of_methodNamed B.named B.method).1
  have hown : s.vm.findClass RX2 = some m.cls := findClass_of_methodNamed B.named
  subst hsz
  have hD := hD0.self (sz := s.heap.size)
  have hl := lv_entry ([.ref q]) (n := 2) (Nat.le_of_ble_eq_true rfl)
  rw [lg_entry_eq]
  generalize (lg_sl ([.ref q]) ++ List.replicate (2 - (lg_sl ([.ref q])).length) Slot.unset).toArray = ls at hl ⊢
  have hl : lv_has ls 2 [(0, .ref q)] := hl
  generalize hAe : va_A [(q, .inr (2, [.null, .int (Int32.ofInt 0), .int (Int32.ofInt 0)]))] s.heap.size = A at hD ⊢
  have X : CE D ca RX2 cX2_init 2 p s m _ c A := ⟨B.exec, B.bytes, hml, hown, fun w hw => hts0 w (List.mem_cons_of_mem _ hw), hK, fun z hz => by rw [← hAe]; exact Or.inr hz, hNw, hAO⟩
  refine (?_ : CJ p l e _ s m _ below meth c _ D A [(q, .inr (2, [.null, .int (Int32.ofInt 0), .int (Int32.ofInt 0)]))] 0 0 0 ls []) s.heap [] hP hD va_S.rf
  refine CJ.aload X dX2_init_0 rfl (lv_at hl 0 rfl) ?_
  refine CJ.objInit X hl.1 cq152 cq39 cq40 dX2_init_1 (Nat.le_of_ble_eq_true rfl) (Nat.le_of_ble_eq_true rfl) ?_
  refine CJ.aload X dX2_init_4 rfl (lv_at hl 0 rfl) ?_
  refine CJ.iconst X (Int32.ofInt 5) dX2_init_5 (by decide) ?_
  refine CJ.newq X 5 cq153 (by decide) (by decide) (Nat.le_of_ble_eq_true rfl) (Nat.le_of_ble_eq_true rfl) (Nat.le_of_ble_eq_true rfl) dX2_init_6 (fun q1 => ?_)
  refine CJ.putF X hin ck2 0 rfl 0 (by decide) cq156 rfl rfl rfl rfl (Nat.le_of_ble_eq_true rfl) dX2_init_9 [(q, .inr (2, [.ref q1, .int (Int32.ofInt 0), .int (Int32.ofInt 0)])), (q1, .inl (ca 5, 5, .inr (.inr (.inr (.inr fun _ => none)))))] rfl ?_
  refine CJ.aload X dX2_init_12 rfl (lv_at hl 0 rfl) ?_
  refine CJ.iconst X (Int32.ofInt 0) dX2_init_13 (by decide) ?_
  refine CJ.put X ck2 0 rfl 1 (by decide) cq157 rfl rfl rfl (Nat.le_of_ble_eq_true rfl) dX2_init_14 [(q, .inr (2, [.ref q1, .int (Int32.ofInt 0), .int (Int32.ofInt 0)])), (q1, .inl (ca 5, 5, .inr (.inr (.inr (.inr fun _ => none)))))] rfl ?_
  refine CJ.aload X dX2_init_17 rfl (lv_at hl 0 rfl) ?_
  refine CJ.iconst X (Int32.ofInt 0) dX2_init_18 (by decide) ?_
  refine CJ.put X ck2 0 rfl 2 (by decide) cq158 rfl rfl rfl (Nat.le_of_ble_eq_true rfl) dX2_init_19 [(q, .inr (2, [.ref q1, .int (Int32.ofInt 0), .int (Int32.ofInt 0)])), (q1, .inl (ca 5, 5, .inr (.inr (.inr (.inr fun _ => none)))))] rfl ?_
  refine CJ.iconst X (Int32.ofInt 0) dX2_init_22 (by decide) ?_
  refine CJ.istore X [(1, .int (Int32.ofInt 0)), (0, .ref q)] dX2_init_23 rfl hl (by decide) rfl (fun ls hl => ?_)
  refine CJ.iload X dX2_init_24 rfl (lv_at hl 0 rfl) ?_
  refine CJ.iconst X (Int32.ofInt 5) dX2_init_25 (by decide) ?_
  refine CJ.ge_n X 48 dX2_init_26 (by decide) (by decide) ?_
  refine CJ.aload X dX2_init_29 rfl (lv_at hl 1 rfl) ?_
  refine CJ.get X (.ref q1) ck2 0 rfl 0 (by decide) cq156 rfl dX2_init_30 ?_
  refine CJ.iload X dX2_init_33 rfl (lv_at hl 0 rfl) ?_
  refine CJ.new X ck4 [.null, .null, .int (Int32.ofInt 0), .int (Int32.ofInt 0), .null, .int (Int32.ofInt 0), .null, .null, .int (Int32.ofInt 0), .null] cq153 cq89 cq24 (fun j hj => by rcases (show j = 0 ∨ j = 1 ∨ j = 2 ∨ j = 3 ∨ j = 4 ∨ j = 5 ∨ j = 6 ∨ j = 7 ∨ j = 8 ∨ j = 9 by omega) with rfl | rfl | rfl | rfl | rfl | rfl | rfl | rfl | rfl | rfl <;> rfl) (Nat.le_of_ble_eq_true rfl) (Nat.le_of_ble_eq_true rfl) dX2_init_34 (fun q2 => ?_)
  refine CJ.dup X dX2_init_37 ?_
  refine CJ.ctor (as := []) c_X4_init X hl.1 cq155 cq91 cq24 cq92 rfl rfl ⟨by decide +kernel, by decide +kernel, (by decide +kernel : (parseMethodDescriptor YX4_init.1.desc).map (fun d => d.parameters.length) = some 0)⟩ (by decide) rfl (Nat.le_of_ble_eq_true rfl) dX2_init_38 (Nat.le_of_ble_eq_true rfl) (Nat.le_of_ble_eq_true rfl) (fun u1 hu1 => ?_)
  refine CJ.aast X 1 2 rfl rfl 0 (vin_of (i := 0) (by decide) (by decide) (by decide)) (oi_clamp (x := 0) (by decide)) dX2_init_41 ([(q, .inr (2, [.ref q1, .int (Int32.ofInt 0), .int (Int32.ofInt 0)])), (q1, .inl (ca 5, 5, .inr (.inr (.inr (.inr (va_up (fun _ => none) 0 (some q2)))))))] ++ (shopC ca q2 u1)) rfl ?_
  refine CJ.iinc (k := 0) X (Int32.ofInt 1) [(1, .int (Int32.ofInt 1)), (0, .ref q)] dX2_init_42 hl rfl (by decide) (by decide) rfl (fun ls hl => ?_)
  refine CJ.goto X 24 dX2_init_45 (by decide) ?_
  refine CJ.iload X dX2_init_24 rfl (lv_at hl 0 rfl) ?_
  refine CJ.iconst X (Int32.ofInt 5) dX2_init_25 (by decide) ?_
  refine CJ.ge_n X 48 dX2_init_26 (by decide) (by decide) ?_
  refine CJ.aload X dX2_init_29 rfl (lv_at hl 1 rfl) ?_
  refine CJ.get X (.ref q1) ck2 0 rfl 0 (by decide) cq156 rfl dX2_init_30 ?_
  refine CJ.iload X dX2_init_33 rfl (lv_at hl 0 rfl) ?_
  refine CJ.new X ck4 [.null, .null, .int (Int32.ofInt 0), .int (Int32.ofInt 0), .null, .int (Int32.ofInt 0), .null, .null, .int (Int32.ofInt 0), .null] cq153 cq89 cq24 (fun j hj => by rcases (show j = 0 ∨ j = 1 ∨ j = 2 ∨ j = 3 ∨ j = 4 ∨ j = 5 ∨ j = 6 ∨ j = 7 ∨ j = 8 ∨ j = 9 by omega) with rfl | rfl | rfl | rfl | rfl | rfl | rfl | rfl | rfl | rfl <;> rfl) (Nat.le_of_ble_eq_true rfl) (Nat.le_of_ble_eq_true rfl) dX2_init_34 (fun q3 => ?_)
  refine CJ.dup X dX2_init_37 ?_
  refine CJ.ctor (as := []) c_X4_init X hl.1 cq155 cq91 cq24 cq92 rfl rfl ⟨by decide +kernel, by decide +kernel, (by decide +kernel : (parseMethodDescriptor YX4_init.1.desc).map (fun d => d.parameters.length) = some 0)⟩ (by decide) rfl (Nat.le_of_ble_eq_true rfl) dX2_init_38 (Nat.le_of_ble_eq_true rfl) (Nat.le_of_ble_eq_true rfl) (fun u2 hu2 => ?_)
  refine CJ.aast X 1 9 rfl rfl 1 (vin_of (i := 1) (by decide) (by decide) (by decide)) (oi_clamp (x := 1) (by decide)) dX2_init_41 ([(q, .inr (2, [.ref q1, .int (Int32.ofInt 0), .int (Int32.ofInt 0)])), (q1, .inl (ca 5, 5, .inr (.inr (.inr (.inr (va_up (va_up (fun _ => none) 0 (some q2)) 1 (some q3)))))))] ++ (shopC ca q2 u1) ++ (shopC ca q3 u2)) rfl ?_
  refine CJ.iinc (k := 0) X (Int32.ofInt 2) [(1, .int (Int32.ofInt 2)), (0, .ref q)] dX2_init_42 hl rfl (by decide) (by decide) rfl (fun ls hl => ?_)
  refine CJ.goto X 24 dX2_init_45 (by decide) ?_
  refine CJ.iload X dX2_init_24 rfl (lv_at hl 0 rfl) ?_
  refine CJ.iconst X (Int32.ofInt 5) dX2_init_25 (by decide) ?_
  refine CJ.ge_n X 48 dX2_init_26 (by decide) (by decide) ?_
  refine CJ.aload X dX2_init_29 rfl (lv_at hl 1 rfl) ?_
  refine CJ.get X (.ref q1) ck2 0 rfl 0 (by decide) cq156 rfl dX2_init_30 ?_
  refine CJ.iload X dX2_init_33 rfl (lv_at hl 0 rfl) ?_
  refine CJ.new X ck4 [.null, .null, .int (Int32.ofInt 0), .int (Int32.ofInt 0), .null, .int (Int32.ofInt 0), .null, .null, .int (Int32.ofInt 0), .null] cq153 cq89 cq24 (fun j hj => by rcases (show j = 0 ∨ j = 1 ∨ j = 2 ∨ j = 3 ∨ j = 4 ∨ j = 5 ∨ j = 6 ∨ j = 7 ∨ j = 8 ∨ j = 9 by omega) with rfl | rfl | rfl | rfl | rfl | rfl | rfl | rfl | rfl | rfl <;> rfl) (Nat.le_of_ble_eq_true rfl) (Nat.le_of_ble_eq_true rfl) dX2_init_34 (fun q4 => ?_)
  refine CJ.dup X dX2_init_37 ?_
  refine CJ.ctor (as := []) c_X4_init X hl.1 cq155 cq91 cq24 cq92 rfl rfl ⟨by decide +kernel, by decide +kernel, (by decide +kernel : (parseMethodDescriptor YX4_init.1.desc).map (fun d => d.parameters.length) = some 0)⟩ (by decide) rfl (Nat.le_of_ble_eq_true rfl) dX2_init_38 (Nat.le_of_ble_eq_true rfl) (Nat.le_of_ble_eq_true rfl) (fun u3 hu3 => ?_)
  refine CJ.aast X 1 16 rfl rfl 2 (vin_of (i := 2) (by decide) (by decide) (by decide)) (oi_clamp (x := 2) (by decide)) dX2_init_41 ([(q, .inr (2, [.ref q1, .int (Int32.ofInt 0), .int (Int32.ofInt 0)])), (q1, .inl (ca 5, 5, .inr (.inr (.inr (.inr (va_up (va_up (va_up (fun _ => none) 0 (some q2)) 1 (some q3)) 2 (some q4)))))))] ++ (shopC ca q2 u1) ++ (shopC ca q3 u2) ++ (shopC ca q4 u3)) rfl ?_
  refine CJ.iinc (k := 0) X (Int32.ofInt 3) [(1, .int (Int32.ofInt 3)), (0, .ref q)] dX2_init_42 hl rfl (by decide) (by decide) rfl (fun ls hl => ?_)
  refine CJ.goto X 24 dX2_init_45 (by decide) ?_
  refine CJ.iload X dX2_init_24 rfl (lv_at hl 0 rfl) ?_
  refine CJ.iconst X (Int32.ofInt 5) dX2_init_25 (by decide) ?_
  refine CJ.ge_n X 48 dX2_init_26 (by decide) (by decide) ?_
  refine CJ.aload X dX2_init_29 rfl (lv_at hl 1 rfl) ?_
  refine CJ.get X (.ref q1) ck2 0 rfl 0 (by decide) cq156 rfl dX2_init_30 ?_
  refine CJ.iload X dX2_init_33 rfl (lv_at hl 0 rfl) ?_
  refine CJ.new X ck4 [.null, .null, .int (Int32.ofInt 0), .int (Int32.ofInt 0), .null, .int (Int32.ofInt 0), .null, .null, .int (Int32.ofInt 0), .null] cq153 cq89 cq24 (fun j hj => by rcases (show j = 0 ∨ j = 1 ∨ j = 2 ∨ j = 3 ∨ j = 4 ∨ j = 5 ∨ j = 6 ∨ j = 7 ∨ j = 8 ∨ j = 9 by omega) with rfl | rfl | rfl | rfl | rfl | rfl | rfl | rfl | rfl | rfl <;> rfl) (Nat.le_of_ble_eq_true rfl) (Nat.le_of_ble_eq_true rfl) dX2_init_34 (fun q5 => ?_)
  refine CJ.dup X dX2_init_37 ?_
  refine CJ.ctor (as := []) c_X4_init X hl.1 cq155 cq91 cq24 cq92 rfl rfl ⟨by decide +kernel, by decide +kernel, (by decide +kernel : (parseMethodDescriptor YX4_init.1.desc).map (fun d => d.parameters.length) = some 0)⟩ (by decide) rfl (Nat.le_of_ble_eq_true rfl) dX2_init_38 (Nat.le_of_ble_eq_true rfl) (Nat.le_of_ble_eq_true rfl) (fun u4 hu4 => ?_)
  refine CJ.aast X 1 23 rfl rfl 3 (vin_of (i := 3) (by decide) (by decide) (by decide)) (oi_clamp (x := 3) (by decide)) dX2_init_41 ([(q, .inr (2, [.ref q1, .int (Int32.ofInt 0), .int (Int32.ofInt 0)])), (q1, .inl (ca 5, 5, .inr (.inr (.inr (.inr (va_up (va_up (va_up (va_up (fun _ => none) 0 (some q2)) 1 (some q3)) 2 (some q4)) 3 (some q5)))))))] ++ (shopC ca q2 u1) ++ (shopC ca q3 u2) ++ (shopC ca q4 u3) ++ (shopC ca q5 u4)) rfl ?_
  refine CJ.iinc (k := 0) X (Int32.ofInt 4) [(1, .int (Int32.ofInt 4)), (0, .ref q)] dX2_init_42 hl rfl (by decide) (by decide) rfl (fun ls hl => ?_)
  refine CJ.goto X 24 dX2_init_45 (by decide) ?_
  refine CJ.iload X dX2_init_24 rfl (lv_at hl 0 rfl) ?_
  refine CJ.iconst X (Int32.ofInt 5) dX2_init_25 (by decide) ?_
  refine CJ.ge_n X 48 dX2_init_26 (by decide) (by decide) ?_
  refine CJ.aload X dX2_init_29 rfl (lv_at hl 1 rfl) ?_
  refine CJ.get X (.ref q1) ck2 0 rfl 0 (by decide) cq156 rfl dX2_init_30 ?_
  refine CJ.iload X dX2_init_33 rfl (lv_at hl 0 rfl) ?_
  refine CJ.new X ck4 [.null, .null, .int (Int32.ofInt 0), .int (Int32.ofInt 0), .null, .int (Int32.ofInt 0), .null, .null, .int (Int32.ofInt 0), .null] cq153 cq89 cq24 (fun j hj => by rcases (show j = 0 ∨ j = 1 ∨ j = 2 ∨ j = 3 ∨ j = 4 ∨ j = 5 ∨ j = 6 ∨ j = 7 ∨ j = 8 ∨ j = 9 by omega) with rfl | rfl | rfl | rfl | rfl | rfl | rfl | rfl | rfl | rfl <;> rfl) (Nat.le_of_ble_eq_true rfl) (Nat.le_of_ble_eq_true rfl) dX2_init_34 (fun q6 => ?_)
  refine CJ.dup X dX2_init_37 ?_
  refine CJ.ctor (as := []) c_X4_init X hl.1 cq155 cq91 cq24 cq92 rfl rfl ⟨by decide +kernel, by decide +kernel, (by decide +kernel : (parseMethodDescriptor YX4_init.1.desc).map (fun d => d.parameters.length) = some 0)⟩ (by decide) rfl (Nat.le_of_ble_eq_true rfl) dX2_init_38 (Nat.le_of_ble_eq_true rfl) (Nat.le_of_ble_eq_true rfl) (fun u5 hu5 => ?_)
  refine CJ.aast X 1 30 rfl rfl 4 (vin_of (i := 4) (by decide) (by decide) (by decide)) (oi_clamp (x := 4) (by decide)) dX2_init_41 ([(q, .inr (2, [.ref q1, .int (Int32.ofInt 0), .int (Int32.ofInt 0)])), (q1, .inl (ca 5, 5, .inr (.inr (.inr (.inr (va_up (va_up (va_up (va_up (va_up (fun _ => none) 0 (some q2)) 1 (some q3)) 2 (some q4)) 3 (some q5)) 4 (some q6)))))))] ++ (shopC ca q2 u1) ++ (shopC ca q3 u2) ++ (shopC ca q4 u3) ++ (shopC ca q5 u4) ++ (shopC ca q6 u5)) rfl ?_
  refine CJ.iinc (k := 0) X (Int32.ofInt 5) [(1, .int (Int32.ofInt 5)), (0, .ref q)] dX2_init_42 hl rfl (by decide) (by decide) rfl (fun ls hl => ?_)
  refine CJ.goto X 24 dX2_init_45 (by decide) ?_
  refine CJ.iload X dX2_init_24 rfl (lv_at hl 0 rfl) ?_
  refine CJ.iconst X (Int32.ofInt 5) dX2_init_25 (by decide) ?_
  refine CJ.ge_y X 48 dX2_init_26 (by decide) (by decide) ?_
  exact CJ.vret X hr hlocks dX2_init_48 (fun _ h => h) (fun H locs t hP hD hS ht hW => ⟨⟨fun k => [q1, q2, u1 0, u1 1, u1 2, u1 3, u1 4, u1 5, q3, u2 0, u2 1, u2 2, u2 3, u2 4, u2 5, q4, u3 0, u3 1, u3 2, u3 3, u3 4, u3 5, q5, u4 0, u4 1, u4 2, u4 3, u4 4, u4 5, q6, u5 0, u5 1, u5 2, u5 3, u5 4, u5 5].getD k 0, rfl, trivial, by rw [ht]; exact hP, va_K.moved hW.alike hK, hD⟩, hS.F ht⟩)
