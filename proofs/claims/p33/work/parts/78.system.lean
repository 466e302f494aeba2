/-! the constructor of the whole class -/
theorem cq22 : Cond.initialized RX3 ∈ WS := mw 22 (by decide +kernel) rfl
theorem cq23 : Cond.initialized RX5 ∈ WS := mw 23 (by decide +kernel) rfl
theorem cq25 : Cond.initialized RX2 ∈ WS := mw 25 (by decide +kernel) rfl
theorem cq26 : Cond.initialized RX0 ∈ WS := mw 26 (by decide +kernel) rfl
theorem cq27 : Cond.initialized RX6 ∈ WS := mw 27 (by decide +kernel) rfl
theorem cq28 : Cond.initialized RX1 ∈ WS := mw 28 (by decide +kernel) rfl
theorem cq38 : Cond.methodLink RX7 1 Lib.objectInit ∈ WS := mw 38 (by decide +kernel) rfl
theorem cq41 : Cond.classLink RX7 7 RX3 ∈ WS := mw 41 (by decide +kernel) rfl
theorem cq42 : Cond.instantiable RX3 1 ∈ WS := mw 42 (by decide +kernel) rfl
theorem cq43 : Cond.methodLink RX7 9 yX3_init ∈ WS := mw 43 (by decide +kernel) rfl
theorem cq44 : Cond.instanceMethod yX3_init ∈ WS := mw 44 (by decide +kernel) rfl
theorem cq45 : Cond.code yX3_init cX3_init 4 none ∈ WS := mw 45 (by decide +kernel) rfl
theorem cq52 : Cond.classLink RX7 16 RX5 ∈ WS := mw 52 (by decide +kernel) rfl
theorem cq53 : Cond.instantiable RX5 9 ∈ WS := mw 53 (by decide +kernel) rfl
theorem cq54 : Cond.methodLink RX7 18 yX5_init ∈ WS := mw 54 (by decide +kernel) rfl
theorem cq55 : Cond.instanceMethod yX5_init ∈ WS := mw 55 (by decide +kernel) rfl
theorem cq56 : Cond.code yX5_init cX5_init 2 none ∈ WS := mw 56 (by decide +kernel) rfl
theorem cq88 : Cond.classLink RX7 25 RX4 ∈ WS := mw 88 (by decide +kernel) rfl
theorem cq90 : Cond.methodLink RX7 27 yX4_init ∈ WS := mw 90 (by decide +kernel) rfl
theorem cq147 : Cond.classLink RX7 39 RX2 ∈ WS := mw 147 (by decide +kernel) rfl
theorem cq148 : Cond.instantiable RX2 3 ∈ WS := mw 148 (by decide +kernel) rfl
theorem cq149 : Cond.methodLink RX7 41 yX2_init ∈ WS := mw 149 (by decide +kernel) rfl
theorem cq150 : Cond.instanceMethod yX2_init ∈ WS := mw 150 (by decide +kernel) rfl
theorem cq151 : Cond.code yX2_init cX2_init 2 none ∈ WS := mw 151 (by decide +kernel) rfl
theorem cq167 : Cond.classLink RX7 46 RX0 ∈ WS := mw 167 (by decide +kernel) rfl
theorem cq168 : Cond.instantiable RX0 4 ∈ WS := mw 168 (by decide +kernel) rfl
theorem cq169 : Cond.methodLink RX7 48 yX0_init ∈ WS := mw 169 (by decide +kernel) rfl
theorem cq170 : Cond.instanceMethod yX0_init ∈ WS := mw 170 (by decide +kernel) rfl
theorem cq171 : Cond.code yX0_init cX0_init 4 none ∈ WS := mw 171 (by decide +kernel) rfl
theorem cq186 : Cond.classLink RX7 55 RX6 ∈ WS := mw 186 (by decide +kernel) rfl
theorem cq187 : Cond.instantiable RX6 7 ∈ WS := mw 187 (by decide +kernel) rfl
theorem cq188 : Cond.methodLinkNest RX7 57 yX6_init "SpiceThrees" ∈ NWS := mwN 188 (by decide +kernel) rfl
theorem cq189 : Cond.instanceMethod yX6_init ∈ WS := mw 189 (by decide +kernel) rfl
theorem cq190 : Cond.code yX6_init cX6_init 1 none ∈ WS := mw 190 (by decide +kernel) rfl
theorem cq216 : Cond.classLink RX7 62 RX1 ∈ WS := mw 216 (by decide +kernel) rfl
theorem cq217 : Cond.instantiable RX1 4 ∈ WS := mw 217 (by decide +kernel) rfl
theorem cq218 : Cond.methodLink RX7 64 yX1_init ∈ WS := mw 218 (by decide +kernel) rfl
theorem cq219 : Cond.instanceMethod yX1_init ∈ WS := mw 219 (by decide +kernel) rfl
theorem cq220 : Cond.code yX1_init cX1_init 2 none ∈ WS := mw 220 (by decide +kernel) rfl
theorem cq236 : Cond.fieldLink RX7 10 "SpiceThrees" "mixes" "LSpiceThrees$Mixes;" ∈ WS := mw 236 (by decide +kernel) rfl
theorem cq237 : Cond.fieldLink RX7 21 "SpiceThrees" "tastes" "LSpiceThrees$Tastes;" ∈ WS := mw 237 (by decide +kernel) rfl
theorem cq238 : Cond.fieldLink RX7 28 "SpiceThrees" "shop" "LSpiceThrees$Shop;" ∈ WS := mw 238 (by decide +kernel) rfl
theorem cq239 : Cond.fieldLink RX7 32 "SpiceThrees" "kept" "LSpiceThrees$Shop;" ∈ WS := mw 239 (by decide +kernel) rfl
theorem cq240 : Cond.fieldLink RX7 35 "SpiceThrees" "hasKept" "Z" ∈ WS := mw 240 (by decide +kernel) rfl
theorem cq241 : Cond.fieldLink RX7 42 "SpiceThrees" "history" "LSpiceThrees$History;" ∈ WS := mw 241 (by decide +kernel) rfl
theorem cq242 : Cond.fieldLink RX7 51 "SpiceThrees" "acts" "LSpiceThrees$Acts;" ∈ WS := mw 242 (by decide +kernel) rfl
theorem cq243 : Cond.fieldLink RX7 58 "SpiceThrees" "text" "LSpiceThrees$Text;" ∈ WS := mw 243 (by decide +kernel) rfl
theorem cq244 : Cond.fieldLink RX7 65 "SpiceThrees" "choices" "LSpiceThrees$Choices;" ∈ WS := mw 244 (by decide +kernel) rfl
def YX7_init : MR := (yX7_init, cX7_init, 1, none, 3, 54)
set_option maxHeartbeats 4000000 in
set_option maxRecDepth 100000 in
theorem c_X7_init {l : Launch} {D : va_G} {ca : Nat → ClassId} (stat : Nat → Nat) : MC l D ca YX7_init 7 [.null, .null, .null, .null, .int (Int32.ofInt 0), .null, .null, .null, .null] [] 68 11628 (fun u => JG u.2 : (( Nat → Nat) × (Nat → Int)) → Prop) (sysC stat ca) := by
  intro q sz
  refine Met.ofW (cc := cX7_init) (maxL := 1) (ret := none) (by decide) rfl ?_
  intro p e s m args below meth c s₁ B hml hv
  obtain ⟨rfl, hsz, hP, hK, hD0, hNw, hAO⟩ := hv
  have hr := B.returns
  have hlocks := B.notSynchronized
  have hts0 := atoms_spec (ws := wsY YX7_init) B.pre
  have hin : meth.name = "<init>" := (name_of_methodNamed B.named B.method).1
  have hown : s.vm.findClass RX7 = some m.cls := findClass_of_methodNamed B.named
  subst hsz
  have hD := hD0.self (sz := s.heap.size)
  have hl := lv_entry ([.ref q]) (n := 1) (Nat.le_of_ble_eq_true rfl)
  rw [lg_entry_eq]
  generalize (lg_sl ([.ref q]) ++ List.replicate (1 - (lg_sl ([.ref q])).length) Slot.unset).toArray = ls at hl ⊢
  have hl : lv_has ls 1 [(0, .ref q)] := hl
  generalize hAe : va_A [(q, .inr (7, [.null, .null, .null, .null, .int (Int32.ofInt 0), .null, .null, .null, .null]))] s.heap.size = A at hD ⊢
  have X : CE D ca RX7 cX7_init 1 p s m _ c A := ⟨B.exec, B.bytes, hml, hown, fun w hw => hts0 w (List.mem_cons_of_mem _ hw), hK, fun z hz => by rw [← hAe]; exact Or.inr hz, hNw, hAO⟩
  refine (?_ : CJ p l e _ s m _ below meth c _ D A [(q, .inr (7, [.null, .null, .null, .null, .int (Int32.ofInt 0), .null, .null, .null, .null]))] 0 0 0 ls []) s.heap [] hP hD va_S.rf
  refine CJ.aload X dX7_init_0 rfl (lv_at hl 0 rfl) ?_
  refine CJ.objInit X hl.1 cq38 cq39 cq40 dX7_init_1 (Nat.le_of_ble_eq_true rfl) (Nat.le_of_ble_eq_true rfl) ?_
  refine CJ.aload X dX7_init_4 rfl (lv_at hl 0 rfl) ?_
  refine CJ.new X ck3 [.null] cq41 cq42 cq22 (fun j hj => by rcases (show j = 0 by omega) with rfl <;> rfl) (Nat.le_of_ble_eq_true rfl) (Nat.le_of_ble_eq_true rfl) dX7_init_5 (fun q1 => ?_)
  refine CJ.dup X dX7_init_8 ?_
  refine CJ.ctor (as := []) c_X3_init X hl.1 cq43 cq44 cq22 cq45 rfl rfl ⟨by decide +kernel, by decide +kernel, (by decide +kernel : (parseMethodDescriptor YX3_init.1.desc).map (fun d => d.parameters.length) = some 0)⟩ (by decide) rfl (Nat.le_of_ble_eq_true rfl) dX7_init_9 (Nat.le_of_ble_eq_true rfl) (Nat.le_of_ble_eq_true rfl) (fun u1 hu1 => ?_)
  refine CJ.putF X hin ck7 0 rfl 0 (by decide) cq236 rfl rfl rfl rfl (Nat.le_of_ble_eq_true rfl) dX7_init_12 ([(q, .inr (7, [.ref q1, .null, .null, .null, .int (Int32.ofInt 0), .null, .null, .null, .null]))] ++ (mixC ca q1 u1)) rfl ?_
  refine CJ.aload X dX7_init_15 rfl (lv_at hl 0 rfl) ?_
  refine CJ.new X ck5 [.null, .null, .int (Int32.ofInt 0), .int (Int32.ofInt 0), .null, .null, .null, .null, .null] cq52 cq53 cq23 (fun j hj => by rcases (show j = 0 ∨ j = 1 ∨ j = 2 ∨ j = 3 ∨ j = 4 ∨ j = 5 ∨ j = 6 ∨ j = 7 ∨ j = 8 by omega) with rfl | rfl | rfl | rfl | rfl | rfl | rfl | rfl | rfl <;> rfl) (Nat.le_of_ble_eq_true rfl) (Nat.le_of_ble_eq_true rfl) dX7_init_16 (fun q2 => ?_)
  refine CJ.dup X dX7_init_19 ?_
  refine CJ.aload X dX7_init_20 rfl (lv_at hl 0 rfl) ?_
  refine CJ.get X (.ref q1) ck7 0 rfl 0 (by decide) cq236 rfl dX7_init_21 ?_
  refine CJ.ctor (as := [.ref q1]) (c_X5_init (q1)) X hl.1 cq54 cq55 cq23 cq56 rfl rfl ⟨by decide +kernel, by decide +kernel, (by decide +kernel : (parseMethodDescriptor YX5_init.1.desc).map (fun d => d.parameters.length) = some 1)⟩ (by decide) rfl (Nat.le_of_ble_eq_true rfl) dX7_init_24 (Nat.le_of_ble_eq_true rfl) (Nat.le_of_ble_eq_true rfl) (fun u2 hu2 => ?_)
  refine CJ.putF X hin ck7 0 rfl 1 (by decide) cq237 rfl rfl rfl rfl (Nat.le_of_ble_eq_true rfl) dX7_init_27 ([(q, .inr (7, [.ref q1, .ref q2, .null, .null, .int (Int32.ofInt 0), .null, .null, .null, .null]))] ++ (mixC ca q1 u1) ++ (tasC ca (q1) q2 u2)) rfl ?_
  refine CJ.aload X dX7_init_30 rfl (lv_at hl 0 rfl) ?_
  refine CJ.new X ck4 [.null, .null, .int (Int32.ofInt 0), .int (Int32.ofInt 0), .null, .int (Int32.ofInt 0), .null, .null, .int (Int32.ofInt 0), .null] cq88 cq89 cq24 (fun j hj => by rcases (show j = 0 ∨ j = 1 ∨ j = 2 ∨ j = 3 ∨ j = 4 ∨ j = 5 ∨ j = 6 ∨ j = 7 ∨ j = 8 ∨ j = 9 by omega) with rfl | rfl | rfl | rfl | rfl | rfl | rfl | rfl | rfl | rfl <;> rfl) (Nat.le_of_ble_eq_true rfl) (Nat.le_of_ble_eq_true rfl) dX7_init_31 (fun q3 => ?_)
  refine CJ.dup X dX7_init_34 ?_
  refine CJ.ctor (as := []) c_X4_init X hl.1 cq90 cq91 cq24 cq92 rfl rfl ⟨by decide +kernel, by decide +kernel, (by decide +kernel : (parseMethodDescriptor YX4_init.1.desc).map (fun d => d.parameters.length) = some 0)⟩ (by decide) rfl (Nat.le_of_ble_eq_true rfl) dX7_init_35 (Nat.le_of_ble_eq_true rfl) (Nat.le_of_ble_eq_true rfl) (fun u3 hu3 => ?_)
  refine CJ.putF X hin ck7 0 rfl 2 (by decide) cq238 rfl rfl rfl rfl (Nat.le_of_ble_eq_true rfl) dX7_init_38 ([(q, .inr (7, [.ref q1, .ref q2, .ref q3, .null, .int (Int32.ofInt 0), .null, .null, .null, .null]))] ++ (mixC ca q1 u1) ++ (tasC ca (q1) q2 u2) ++ (shopC ca q3 u3)) rfl ?_
  refine CJ.aload X dX7_init_41 rfl (lv_at hl 0 rfl) ?_
  refine CJ.new X ck4 [.null, .null, .int (Int32.ofInt 0), .int (Int32.ofInt 0), .null, .int (Int32.ofInt 0), .null, .null, .int (Int32.ofInt 0), .null] cq88 cq89 cq24 (fun j hj => by rcases (show j = 0 ∨ j = 1 ∨ j = 2 ∨ j = 3 ∨ j = 4 ∨ j = 5 ∨ j = 6 ∨ j = 7 ∨ j = 8 ∨ j = 9 by omega) with rfl | rfl | rfl | rfl | rfl | rfl | rfl | rfl | rfl | rfl <;> rfl) (Nat.le_of_ble_eq_true rfl) (Nat.le_of_ble_eq_true rfl) dX7_init_42 (fun q4 => ?_)
  refine CJ.dup X dX7_init_45 ?_
  refine CJ.ctor (as := []) c_X4_init X hl.1 cq90 cq91 cq24 cq92 rfl rfl ⟨by decide +kernel, by decide +kernel, (by decide +kernel : (parseMethodDescriptor YX4_init.1.desc).map (fun d => d.parameters.length) = some 0)⟩ (by decide) rfl (Nat.le_of_ble_eq_true rfl) dX7_init_46 (Nat.le_of_ble_eq_true rfl) (Nat.le_of_ble_eq_true rfl) (fun u4 hu4 => ?_)
  refine CJ.putF X hin ck7 0 rfl 3 (by decide) cq239 rfl rfl rfl rfl (Nat.le_of_ble_eq_true rfl) dX7_init_49 ([(q, .inr (7, [.ref q1, .ref q2, .ref q3, .ref q4, .int (Int32.ofInt 0), .null, .null, .null, .null]))] ++ (mixC ca q1 u1) ++ (tasC ca (q1) q2 u2) ++ (shopC ca q3 u3) ++ (shopC ca q4 u4)) rfl ?_
  refine CJ.aload X dX7_init_52 rfl (lv_at hl 0 rfl) ?_
  refine CJ.iconst X (Int32.ofInt 0) dX7_init_53 (by decide) ?_
  refine CJ.put X ck7 0 rfl 4 (by decide) cq240 rfl rfl rfl (Nat.le_of_ble_eq_true rfl) dX7_init_54 ([(q, .inr (7, [.ref q1, .ref q2, .ref q3, .ref q4, .int (Int32.ofInt 0), .null, .null, .null, .null]))] ++ (mixC ca q1 u1) ++ (tasC ca (q1) q2 u2) ++ (shopC ca q3 u3) ++ (shopC ca q4 u4)) rfl ?_
  refine CJ.aload X dX7_init_57 rfl (lv_at hl 0 rfl) ?_
  refine CJ.new X ck2 [.null, .int (Int32.ofInt 0), .int (Int32.ofInt 0)] cq147 cq148 cq25 (fun j hj => by rcases (show j = 0 ∨ j = 1 ∨ j = 2 by omega) with rfl | rfl | rfl <;> rfl) (Nat.le_of_ble_eq_true rfl) (Nat.le_of_ble_eq_true rfl) dX7_init_58 (fun q5 => ?_)
  refine CJ.dup X dX7_init_61 ?_
  refine CJ.ctor (as := []) c_X2_init X hl.1 cq149 cq150 cq25 cq151 rfl rfl ⟨by decide +kernel, by decide +kernel, (by decide +kernel : (parseMethodDescriptor YX2_init.1.desc).map (fun d => d.parameters.length) = some 0)⟩ (by decide) rfl (Nat.le_of_ble_eq_true rfl) dX7_init_62 (Nat.le_of_ble_eq_true rfl) (Nat.le_of_ble_eq_true rfl) (fun u5 hu5 => ?_)
  refine CJ.putF X hin ck7 0 rfl 5 (by decide) cq241 rfl rfl rfl rfl (Nat.le_of_ble_eq_true rfl) dX7_init_65 ([(q, .inr (7, [.ref q1, .ref q2, .ref q3, .ref q4, .int (Int32.ofInt 0), .ref q5, .null, .null, .null]))] ++ (mixC ca q1 u1) ++ (tasC ca (q1) q2 u2) ++ (shopC ca q3 u3) ++ (shopC ca q4 u4) ++ (hisC ca q5 u5)) rfl ?_
  refine CJ.aload X dX7_init_68 rfl (lv_at hl 0 rfl) ?_
  refine CJ.new X ck0 [.null, .null, .null, .null] cq167 cq168 cq26 (fun j hj => by rcases (show j = 0 ∨ j = 1 ∨ j = 2 ∨ j = 3 by omega) with rfl | rfl | rfl | rfl <;> rfl) (Nat.le_of_ble_eq_true rfl) (Nat.le_of_ble_eq_true rfl) dX7_init_69 (fun q6 => ?_)
  refine CJ.dup X dX7_init_72 ?_
  refine CJ.aload X dX7_init_73 rfl (lv_at hl 0 rfl) ?_
  refine CJ.get X (.ref q3) ck7 0 rfl 2 (by decide) cq238 rfl dX7_init_74 ?_
  refine CJ.aload X dX7_init_77 rfl (lv_at hl 0 rfl) ?_
  refine CJ.get X (.ref q1) ck7 0 rfl 0 (by decide) cq236 rfl dX7_init_78 ?_
  refine CJ.aload X dX7_init_81 rfl (lv_at hl 0 rfl) ?_
  refine CJ.get X (.ref q2) ck7 0 rfl 1 (by decide) cq237 rfl dX7_init_82 ?_
  refine CJ.ctor (as := [.ref q3, .ref q1, .ref q2]) (c_X0_init (q3) (q1) (q2)) X hl.1 cq169 cq170 cq26 cq171 rfl rfl ⟨by decide +kernel, by decide +kernel, (by decide +kernel : (parseMethodDescriptor YX0_init.1.desc).map (fun d => d.parameters.length) = some 3)⟩ (by decide) rfl (Nat.le_of_ble_eq_true rfl) dX7_init_85 (Nat.le_of_ble_eq_true rfl) (Nat.le_of_ble_eq_true rfl) (fun u6 hu6 => ?_)
  refine CJ.putF X hin ck7 0 rfl 6 (by decide) cq242 rfl rfl rfl rfl (Nat.le_of_ble_eq_true rfl) dX7_init_88 ([(q, .inr (7, [.ref q1, .ref q2, .ref q3, .ref q4, .int (Int32.ofInt 0), .ref q5, .ref q6, .null, .null]))] ++ (mixC ca q1 u1) ++ (tasC ca (q1) q2 u2) ++ (shopC ca q3 u3) ++ (shopC ca q4 u4) ++ (hisC ca q5 u5) ++ (actC ca (q3) (q1) (q2) q6 u6)) rfl ?_
  refine CJ.aload X dX7_init_91 rfl (lv_at hl 0 rfl) ?_
  refine CJ.new X ck6 [.null, .int (Int32.ofInt 0), .int (Int32.ofInt 0), .int (Int32.ofInt 0), .null, .int (Int32.ofInt 0), .int (Int32.ofInt 0)] cq186 cq187 cq27 (fun j hj => by rcases (show j = 0 ∨ j = 1 ∨ j = 2 ∨ j = 3 ∨ j = 4 ∨ j = 5 ∨ j = 6 by omega) with rfl | rfl | rfl | rfl | rfl | rfl | rfl <;> rfl) (Nat.le_of_ble_eq_true rfl) (Nat.le_of_ble_eq_true rfl) dX7_init_92 (fun q7 => ?_)
  refine CJ.dup X dX7_init_95 ?_
  refine CJ.ctorN (as := []) c_X6_init X hl.1 cq188 cq189 cq27 cq190 rfl rfl ⟨by decide +kernel, by decide +kernel, (by decide +kernel : (parseMethodDescriptor YX6_init.1.desc).map (fun d => d.parameters.length) = some 0)⟩ (by decide) rfl (Nat.le_of_ble_eq_true rfl) dX7_init_96 (Nat.le_of_ble_eq_true rfl) (Nat.le_of_ble_eq_true rfl) (fun u7 hu7 => ?_)
  refine CJ.putF X hin ck7 0 rfl 7 (by decide) cq243 rfl rfl rfl rfl (Nat.le_of_ble_eq_true rfl) dX7_init_99 ([(q, .inr (7, [.ref q1, .ref q2, .ref q3, .ref q4, .int (Int32.ofInt 0), .ref q5, .ref q6, .ref q7, .null]))] ++ (mixC ca q1 u1) ++ (tasC ca (q1) q2 u2) ++ (shopC ca q3 u3) ++ (shopC ca q4 u4) ++ (hisC ca q5 u5) ++ (actC ca (q3) (q1) (q2) q6 u6) ++ (texC ca q7 u7)) rfl ?_
  refine CJ.aload X dX7_init_102 rfl (lv_at hl 0 rfl) ?_
  refine CJ.new X ck1 [.null, .null, .int (Int32.ofInt 0), .null] cq216 cq217 cq28 (fun j hj => by rcases (show j = 0 ∨ j = 1 ∨ j = 2 ∨ j = 3 by omega) with rfl | rfl | rfl | rfl <;> rfl) (Nat.le_of_ble_eq_true rfl) (Nat.le_of_ble_eq_true rfl) dX7_init_103 (fun q8 => ?_)
  refine CJ.dup X dX7_init_106 ?_
  refine CJ.aload X dX7_init_107 rfl (lv_at hl 0 rfl) ?_
  refine CJ.get X (.ref q1) ck7 0 rfl 0 (by decide) cq236 rfl dX7_init_108 ?_
  refine CJ.ctor (as := [.ref q1]) (c_X1_init (q1)) X hl.1 cq218 cq219 cq28 cq220 rfl rfl ⟨by decide +kernel, by decide +kernel, (by decide +kernel : (parseMethodDescriptor YX1_init.1.desc).map (fun d => d.parameters.length) = some 1)⟩ (by decide) rfl (Nat.le_of_ble_eq_true rfl) dX7_init_111 (Nat.le_of_ble_eq_true rfl) (Nat.le_of_ble_eq_true rfl) (fun u8 hu8 => ?_)
  refine CJ.putF X hin ck7 0 rfl 8 (by decide) cq244 rfl rfl rfl rfl (Nat.le_of_ble_eq_true rfl) dX7_init_114 ([(q, .inr (7, [.ref q1, .ref q2, .ref q3, .ref q4, .int (Int32.ofInt 0), .ref q5, .ref q6, .ref q7, .ref q8]))] ++ (mixC ca q1 u1) ++ (tasC ca (q1) q2 u2) ++ (shopC ca q3 u3) ++ (shopC ca q4 u4) ++ (hisC ca q5 u5) ++ (actC ca (q3) (q1) (q2) q6 u6) ++ (texC ca q7 u7) ++ (choC ca (q1) q8 u8)) rfl ?_
  refine CJ.vret X hr hlocks dX7_init_117 (fun _ h => h) (fun H locs t hP hD hS ht hW => ?_)
  have hP1 : va_P D vwCl (sysL ca q q1 q2 q3 q4 q5 q6 q7 q8 u1 u2 u3 u4 u5 u6 u7 u8) H := hP
  have hD1 : va_D A (sysL ca q q1 q2 q3 q4 q5 q6 q7 q8 u1 u2 u3 u4 u5 u6 u7 u8) := hD
  have hP2 := va_P_swap (k := 25) (a := u5 0) (e := .inl (ca 5, 5, .inr (.inr (.inr (.inr (hisF u5)))))) (e' := .inl (ca 5, 5, .inr (.inr (.inr (.inr fun j => some (adX stat q (sysA q q1 q2 q3 q4 q5 q6 q7 q8 u1 u2 u3 u4 u5 u6 u7 u8) ([26, 33, 40, 47, 54].getD j 0))))))) hP1 rfl (by
    have h25 := hP1 25 (u5 0, .inl (ca 5, 5, .inr (.inr (.inr (.inr (hisF u5)))))) rfl
    show H[u5 0]? = some (vp_cell _ _)
    refine Eq.trans h25 (congrArg some ?_)
    show vp_cell _ _ = vp_cell _ _
    rw [vp_cell_q, vp_cell_q]
    refine arrV_cong (fun j hj => ?_)
    rcases (show j = 0 ∨ j = 1 ∨ j = 2 ∨ j = 3 ∨ j = 4 by omega) with rfl | rfl | rfl | rfl | rfl <;> rfl)
  have hD2 : va_D A ((sysL ca q q1 q2 q3 q4 q5 q6 q7 q8 u1 u2 u3 u4 u5 u6 u7 u8).set 25 (u5 0, .inl (ca 5, 5, .inr (.inr (.inr (.inr fun j => some (adX stat q (sysA q q1 q2 q3 q4 q5 q6 q7 q8 u1 u2 u3 u4 u5 u6 u7 u8) ([26, 33, 40, 47, 54].getD j 0)))))))) := hD1.set (p := 25) (e0 := .inl (ca 5, 5, .inr (.inr (.inr (.inr (hisF u5)))))) rfl
  rw [sys_eq] at hP2 hD2
  exact ⟨⟨((sysA q q1 q2 q3 q4 q5 q6 q7 q8 u1 u2 u3 u4 u5 u6 u7 u8), u1.2), rfl, hu1, by rw [ht]; exact hP2, va_K.moved hW.alike hK, hD2⟩, hS.F ht⟩

