/-! the constructor of the whole class -/
theorem cq63 : Cond.initialized RX3 ∈ WS := mw 63 (by decide +kernel) rfl
theorem cq64 : Cond.initialized RX5 ∈ WS := mw 64 (by decide +kernel) rfl
theorem cq66 : Cond.initialized RX2 ∈ WS := mw 66 (by decide +kernel) rfl
theorem cq67 : Cond.initialized RX0 ∈ WS := mw 67 (by decide +kernel) rfl
theorem cq68 : Cond.initialized RX6 ∈ WS := mw 68 (by decide +kernel) rfl
theorem cq69 : Cond.initialized RX1 ∈ WS := mw 69 (by decide +kernel) rfl
theorem cq84 : Cond.methodLink RX7 1 Lib.objectInit ∈ WS := mw 84 (by decide +kernel) rfl
theorem cq87 : Cond.classLink RX7 7 RX3 ∈ WS := mw 87 (by decide +kernel) rfl
theorem cq88 : Cond.instantiable RX3 1 ∈ WS := mw 88 (by decide +kernel) rfl
theorem cq89 : Cond.methodLink RX7 9 yX3_init ∈ WS := mw 89 (by decide +kernel) rfl
theorem cq90 : Cond.instanceMethod yX3_init ∈ WS := mw 90 (by decide +kernel) rfl
theorem cq91 : Cond.code yX3_init cX3_init 4 none ∈ WS := mw 91 (by decide +kernel) rfl
theorem cq98 : Cond.classLink RX7 16 RX5 ∈ WS := mw 98 (by decide +kernel) rfl
theorem cq99 : Cond.instantiable RX5 9 ∈ WS := mw 99 (by decide +kernel) rfl
theorem cq100 : Cond.methodLink RX7 18 yX5_init ∈ WS := mw 100 (by decide +kernel) rfl
theorem cq101 : Cond.instanceMethod yX5_init ∈ WS := mw 101 (by decide +kernel) rfl
theorem cq102 : Cond.code yX5_init cX5_init 2 none ∈ WS := mw 102 (by decide +kernel) rfl
theorem cq134 : Cond.classLink RX7 25 RX4 ∈ WS := mw 134 (by decide +kernel) rfl
theorem cq136 : Cond.methodLink RX7 27 yX4_init ∈ WS := mw 136 (by decide +kernel) rfl
theorem cq193 : Cond.classLink RX7 39 RX2 ∈ WS := mw 193 (by decide +kernel) rfl
theorem cq194 : Cond.instantiable RX2 3 ∈ WS := mw 194 (by decide +kernel) rfl
theorem cq195 : Cond.methodLink RX7 41 yX2_init ∈ WS := mw 195 (by decide +kernel) rfl
theorem cq196 : Cond.instanceMethod yX2_init ∈ WS := mw 196 (by decide +kernel) rfl
theorem cq197 : Cond.code yX2_init cX2_init 2 none ∈ WS := mw 197 (by decide +kernel) rfl
theorem cq213 : Cond.classLink RX7 46 RX0 ∈ WS := mw 213 (by decide +kernel) rfl
theorem cq214 : Cond.instantiable RX0 4 ∈ WS := mw 214 (by decide +kernel) rfl
theorem cq215 : Cond.methodLink RX7 48 yX0_init ∈ WS := mw 215 (by decide +kernel) rfl
theorem cq216 : Cond.instanceMethod yX0_init ∈ WS := mw 216 (by decide +kernel) rfl
theorem cq217 : Cond.code yX0_init cX0_init 4 none ∈ WS := mw 217 (by decide +kernel) rfl
theorem cq232 : Cond.classLink RX7 55 RX6 ∈ WS := mw 232 (by decide +kernel) rfl
theorem cq233 : Cond.instantiable RX6 7 ∈ WS := mw 233 (by decide +kernel) rfl
theorem cq234 : Cond.methodLinkNest RX7 57 yX6_init "SpiceThrees" ∈ NWS := mwN 234 (by decide +kernel) rfl
theorem cq235 : Cond.instanceMethod yX6_init ∈ WS := mw 235 (by decide +kernel) rfl
theorem cq236 : Cond.code yX6_init cX6_init 1 none ∈ WS := mw 236 (by decide +kernel) rfl
theorem cq266 : Cond.classLink RX7 62 RX1 ∈ WS := mw 266 (by decide +kernel) rfl
theorem cq267 : Cond.instantiable RX1 4 ∈ WS := mw 267 (by decide +kernel) rfl
theorem cq268 : Cond.methodLink RX7 64 yX1_init ∈ WS := mw 268 (by decide +kernel) rfl
theorem cq269 : Cond.instanceMethod yX1_init ∈ WS := mw 269 (by decide +kernel) rfl
theorem cq270 : Cond.code yX1_init cX1_init 2 none ∈ WS := mw 270 (by decide +kernel) rfl
theorem cq286 : Cond.fieldLink RX7 10 "SpiceThrees" "mixes" "LSpiceThrees$Mixes;" ∈ WS := mw 286 (by decide +kernel) rfl
theorem cq287 : Cond.fieldLink RX7 21 "SpiceThrees" "tastes" "LSpiceThrees$Tastes;" ∈ WS := mw 287 (by decide +kernel) rfl
theorem cq288 : Cond.fieldLink RX7 28 "SpiceThrees" "shop" "LSpiceThrees$Shop;" ∈ WS := mw 288 (by decide +kernel) rfl
theorem cq289 : Cond.fieldLink RX7 32 "SpiceThrees" "kept" "LSpiceThrees$Shop;" ∈ WS := mw 289 (by decide +kernel) rfl
theorem cq290 : Cond.fieldLink RX7 35 "SpiceThrees" "hasKept" "Z" ∈ WS := mw 290 (by decide +kernel) rfl
theorem cq291 : Cond.fieldLink RX7 42 "SpiceThrees" "history" "LSpiceThrees$History;" ∈ WS := mw 291 (by decide +kernel) rfl
theorem cq292 : Cond.fieldLink RX7 51 "SpiceThrees" "acts" "LSpiceThrees$Acts;" ∈ WS := mw 292 (by decide +kernel) rfl
theorem cq293 : Cond.fieldLink RX7 58 "SpiceThrees" "text" "LSpiceThrees$Text;" ∈ WS := mw 293 (by decide +kernel) rfl
theorem cq294 : Cond.fieldLink RX7 65 "SpiceThrees" "choices" "LSpiceThrees$Choices;" ∈ WS := mw 294 (by decide +kernel) rfl
def YX7_init : MR := (yX7_init, cX7_init, 1, none, 3, 54)
set_option maxHeartbeats 4000000 in
set_option maxRecDepth 100000 in
theorem c_X7_init {l : Launch} {D : va_G} {ca : Nat → ClassId} (stat : Nat → Nat) : MC l D ca YX7_init 7 [.null, .null, .null, .null, .int (Int32.ofInt 0), .null, .null, .null, .null] [] 68 11628 (fun u => JG u.2 : (( Nat → Nat) × (Nat → Int)) → Prop) (sysC stat ca) := by
  intro q sz
  refine Met.ofW (cc := cX7_init) (maxL := 1) (ret := none) (by decide) rfl ?_
  intro p e s m args below meth c s₁ B hml hv
  obtain ⟨rfl, hsz, hP, hK, hD0, hNw, hAO⟩ := hv
  have hr := B.returns
  have hlocks := B.notSynchronized
  have hts0 := atoms_spec (ws := wsY YX7_init) B.pre
  have hin : meth.name = "<init>" := (name_of_methodNamed B.named B.method).1
  have hown : s.vm.findClass RX7 = some m.cls := findClass_of_methodNamed B.named
  subst hsz
  have hD := hD0.self (sz := s.heap.size)
  have hl := lv_entry ([.ref q]) (n := 1) (Nat.le_of_ble_eq_true rfl)
  rw [lg_entry_eq]
  generalize (lg_sl ([.ref q]) ++ List.replicate (1 - (lg_sl ([.ref q])).length) Slot.unset).toArray = ls at hl ⊢
  have hl : lv_has ls 1 [(0, .ref q)] := hl
  generalize hAe : va_A [(q, .inr (7, [.null, .null, .null, .null, .int (Int32.ofInt 0), .null, .null, .null, .null]))] s.heap.size = A at hD ⊢
  have X : CE D ca RX7 cX7_init 1 p s m _ c A := ⟨B.exec, B.bytes, hml, hown, fun w hw => hts0 w (List.mem_cons_of_mem _ hw), hK, fun z hz => by rw [← hAe]; exact Or.inr hz, hNw, hAO⟩
  refine (?_ : CJ p l e _ s m _ below meth c _ D A [(q, .inr (7, [.null, .null, .null, .null, .int (Int32.ofInt 0), .null, .null, .null, .null]))] 0 0 0 ls []) s.heap [] hP hD va_S.rf
  refine CJ.aload X dX7_init_0 rfl (lv_at hl 0 rfl) ?_
  refine CJ.objInit X hl.1 cq84 cq85 cq86 dX7_init_1 (Nat.le_of_ble_eq_true rfl) (Nat.le_of_ble_eq_true rfl) ?_
  refine CJ.aload X dX7_init_4 rfl (lv_at hl 0 rfl) ?_
  refine CJ.new X ck3 [.null] cq87 cq88 cq63 (fun j hj => by rcases (show j = 0 by omega) with rfl <;> rfl) (Nat.le_of_ble_eq_true rfl) (Nat.le_of_ble_eq_true rfl) dX7_init_5 (fun q1 => ?_)
  refine CJ.dup X dX7_init_8 ?_
  refine CJ.ctor (as := []) c_X3_init X hl.1 cq89 cq90 cq63 cq91 rfl rfl ⟨by decide +kernel, by decide +kernel, (by decide +kernel : (parseMethodDescriptor YX3_init.1.desc).map (fun d => d.parameters.length) = some 0)⟩ (by decide) rfl (Nat.le_of_ble_eq_true rfl) dX7_init_9 (Nat.le_of_ble_eq_true rfl) (Nat.le_of_ble_eq_true rfl) (fun u1 hu1 => ?_)
  refine CJ.putF X hin ck7 0 rfl 0 (by decide) cq286 rfl rfl rfl rfl (Nat.le_of_ble_eq_true rfl) dX7_init_12 ([(q, .inr (7, [.ref q1, .null, .null, .null, .int (Int32.ofInt 0), .null, .null, .null, .null]))] ++ (mixC ca q1 u1)) rfl ?_
  refine CJ.aload X dX7_init_15 rfl (lv_at hl 0 rfl) ?_
  refine CJ.new X ck5 [.null, .null, .int (Int32.ofInt 0), .int (Int32.ofInt 0), .null, .null, .null, .null, .null] cq98 cq99 cq64 (fun j hj => by rcases (show j = 0 ∨ j = 1 ∨ j = 2 ∨ j = 3 ∨ j = 4 ∨ j = 5 ∨ j = 6 ∨ j = 7 ∨ j = 8 by omega) with rfl | rfl | rfl | rfl | rfl | rfl | rfl | rfl | rfl <;> rfl) (Nat.le_of_ble_eq_true rfl) (Nat.le_of_ble_eq_true rfl) dX7_init_16 (fun q2 => ?_)
  refine CJ.dup X dX7_init_19 ?_
  refine CJ.aload X dX7_init_20 rfl (lv_at hl 0 rfl) ?_
  refine CJ.get X (.ref q1) ck7 0 rfl 0 (by decide) cq286 rfl dX7_init_21 ?_
  refine CJ.ctor (as := [.ref q1]) (c_X5_init (q1)) X hl.1 cq100 cq101 cq64 cq102 rfl rfl ⟨by decide +kernel, by decide +kernel, (by decide +kernel : (parseMethodDescriptor YX5_init.1.desc).map (fun d => d.parameters.length) = some 1)⟩ (by decide) rfl (Nat.le_of_ble_eq_true rfl) dX7_init_24 (Nat.le_of_ble_eq_true rfl) (Nat.le_of_ble_eq_true rfl) (fun u2 hu2 => ?_)
  refine CJ.putF X hin ck7 0 rfl 1 (by decide) cq287 rfl rfl rfl rfl (Nat.le_of_ble_eq_true rfl) dX7_init_27 ([(q, .inr (7, [.ref q1, .ref q2, .null, .null, .int (Int32.ofInt 0), .null, .null, .null, .null]))] ++ (mixC ca q1 u1) ++ (tasC ca (q1) q2 u2)) rfl ?_
  refine CJ.aload X dX7_init_30 rfl (lv_at hl 0 rfl) ?_
  refine CJ.new X ck4 [.null, .null, .int (Int32.ofInt 0), .int (Int32.ofInt 0), .null, .int (Int32.ofInt 0), .null, .null, .int (Int32.ofInt 0), .null] cq134 cq135 cq65 (fun j hj => by rcases (show j = 0 ∨ j = 1 ∨ j = 2 ∨ j = 3 ∨ j = 4 ∨ j = 5 ∨ j = 6 ∨ j = 7 ∨ j = 8 ∨ j = 9 by omega) with rfl | rfl | rfl | rfl | rfl | rfl | rfl | rfl | rfl | rfl <;> rfl) (Nat.le_of_ble_eq_true rfl) (Nat.le_of_ble_eq_true rfl) dX7_init_31 (fun q3 => ?_)
  refine CJ.dup X dX7_init_34 ?_
  refine CJ.ctor (as := []) c_X4_init X hl.1 cq136 cq137 cq65 cq138 rfl rfl ⟨by decide +kernel, by decide +kernel, (by decide +kernel : (parseMethodDescriptor YX4_init.1.desc).map (fun d => d.parameters.length) = some 0)⟩ (by decide) rfl (Nat.le_of_ble_eq_true rfl) dX7_init_35 (Nat.le_of_ble_eq_true rfl) (Nat.le_of_ble_eq_true rfl) (fun u3 hu3 => ?_)
  refine CJ.putF X hin ck7 0 rfl 2 (by decide) cq288 rfl rfl rfl rfl (Nat.le_of_ble_eq_true rfl) dX7_init_38 ([(q, .inr (7, [.ref q1, .ref q2, .ref q3, .null, .int (Int32.ofInt 0), .null, .null, .null, .null]))] ++ (mixC ca q1 u1) ++ (tasC ca (q1) q2 u2) ++ (shopC ca q3 u3)) rfl ?_
  refine CJ.aload X dX7_init_41 rfl (lv_at hl 0 rfl) ?_
  refine CJ.new X ck4 [.null, .null, .int (Int32.ofInt 0), .int (Int32.ofInt 0), .null, .int (Int32.ofInt 0), .null, .null, .int (Int32.ofInt 0), .null] cq134 cq135 cq65 (fun j hj => by rcases (show j = 0 ∨ j = 1 ∨ j = 2 ∨ j = 3 ∨ j = 4 ∨ j = 5 ∨ j = 6 ∨ j = 7 ∨ j = 8 ∨ j = 9 by omega) with rfl | rfl | rfl | rfl | rfl | rfl | rfl | rfl | rfl | rfl <;> rfl) (Nat.le_of_ble_eq_true rfl) (Nat.le_of_ble_eq_true rfl) dX7_init_42 (fun q4 => ?_)
  refine CJ.dup X dX7_init_45 ?_
  refine CJ.ctor (as := []) c_X4_init X hl.1 cq136 cq137 cq65 cq138 rfl rfl ⟨by decide +kernel, by decide +kernel, (by decide +kernel : (parseMethodDescriptor YX4_init.1.desc).map (fun d => d.parameters.length) = some 0)⟩ (by decide) rfl (Nat.le_of_ble_eq_true rfl) dX7_init_46 (Nat.le_of_ble_eq_true rfl) (Nat.le_of_ble_eq_true rfl) (fun u4 hu4 => ?_)
  refine CJ.putF X hin ck7 0 rfl 3 (by decide) cq289 rfl rfl rfl rfl (Nat.le_of_ble_eq_true rfl) dX7_init_49 ([(q, .inr (7, [.ref q1, .ref q2, .ref q3, .ref q4, .int (Int32.ofInt 0), .null, .null, .null, .null]))] ++ (mixC ca q1 u1) ++ (tasC ca (q1) q2 u2) ++ (shopC ca q3 u3) ++ (shopC ca q4 u4)) rfl ?_
  refine CJ.aload X dX7_init_52 rfl (lv_at hl 0 rfl) ?_
  refine CJ.iconst X (Int32.ofInt 0) dX7_init_53 (by decide) ?_
  refine CJ.put X ck7 0 rfl 4 (by decide) cq290 rfl rfl rfl (Nat.le_of_ble_eq_true rfl) dX7_init_54 ([(q, .inr (7, [.ref q1, .ref q2, .ref q3, .ref q4, .int (Int32.ofInt 0), .null, .null, .null, .null]))] ++ (mixC ca q1 u1) ++ (tasC ca (q1) q2 u2) ++ (shopC ca q3 u3) ++ (shopC ca q4 u4)) rfl ?_
  refine CJ.aload X dX7_init_57 rfl (lv_at hl 0 rfl) ?_
  refine CJ.new X ck2 [.null, .int (Int32.ofInt 0), .int (Int32.ofInt 0)] cq193 cq194 cq66 (fun j hj => by rcases (show j = 0 ∨ j = 1 ∨ j = 2 by omega) with rfl | rfl | rfl <;> rfl) (Nat.le_of_ble_eq_true rfl) (Nat.le_of_ble_eq_true rfl) dX7_init_58 (fun q5 => ?_)
  refine CJ.dup X dX7_init_61 ?_
  refine CJ.ctor (as := []) c_X2_init X hl.1 cq195 cq196 cq66 cq197 rfl rfl ⟨by decide +kernel, by decide +kernel, (by decide +kernel : (parseMethodDescriptor YX2_init.1.desc).map (fun d => d.parameters.length) = some 0)⟩ (by decide) rfl (Nat.le_of_ble_eq_true rfl) dX7_init_62 (Nat.le_of_ble_eq_true rfl) (Nat.le_of_ble_eq_true rfl) (fun u5 hu5 => ?_)
  refine CJ.putF X hin ck7 0 rfl 5 (by decide) cq291 rfl rfl rfl rfl (Nat.le_of_ble_eq_true rfl) dX7_init_65 ([(q, .inr (7, [.ref q1, .ref q2, .ref q3, .ref q4, .int (Int32.ofInt 0), .ref q5, .null, .null, .null]))] ++ (mixC ca q1 u1) ++ (tasC ca (q1) q2 u2) ++ (shopC ca q3 u3) ++ (shopC ca q4 u4) ++ (hisC ca q5 u5)) rfl ?_
  refine CJ.aload X dX7_init_68 rfl (lv_at hl 0 rfl) ?_
  refine CJ.new X ck0 [.null, .null, .null, .null] cq213 cq214 cq67 (fun j hj => by rcases (show j = 0 ∨ j = 1 ∨ j = 2 ∨ j = 3 by omega) with rfl | rfl | rfl | rfl <;> rfl) (Nat.le_of_ble_eq_true rfl) (Nat.le_of_ble_eq_true rfl) dX7_init_69 (fun q6 => ?_)
  refine CJ.dup X dX7_init_72 ?_
  refine CJ.aload X dX7_init_73 rfl (lv_at hl 0 rfl) ?_
  refine CJ.get X (.ref q3) ck7 0 rfl 2 (by decide) cq288 rfl dX7_init_74 ?_
  refine CJ.aload X dX7_init_77 rfl (lv_at hl 0 rfl) ?_
  refine CJ.get X (.ref q1) ck7 0 rfl 0 (by decide) cq286 rfl dX7_init_78 ?_
  refine CJ.aload X dX7_init_81 rfl (lv_at hl 0 rfl) ?_
  refine CJ.get X (.ref q2) ck7 0 rfl 1 (by decide) cq287 rfl dX7_init_82 ?_
  refine CJ.ctor (as := [.ref q3, .ref q1, .ref q2]) (c_X0_init (q3) (q1) (q2)) X hl.1 cq215 cq216 cq67 cq217 rfl rfl ⟨by decide +kernel, by decide +kernel, (by decide +kernel : (parseMethodDescriptor YX0_init.1.desc).map (fun d => d.parameters.length) = some 3)⟩ (by decide) rfl (Nat.le_of_ble_eq_true rfl) dX7_init_85 (Nat.le_of_ble_eq_true rfl) (Nat.le_of_ble_eq_true rfl) (fun u6 hu6 => ?_)
  refine CJ.putF X hin ck7 0 rfl 6 (by decide) cq292 rfl rfl rfl rfl (Nat.le_of_ble_eq_true rfl) dX7_init_88 ([(q, .inr (7, [.ref q1, .ref q2, .ref q3, .ref q4, .int (Int32.ofInt 0), .ref q5, .ref q6, .null, .null]))] ++ (mixC ca q1 u1) ++ (tasC ca (q1) q2 u2) ++ (shopC ca q3 u3) ++ (shopC ca q4 u4) ++ (hisC ca q5 u5) ++ (actC ca (q3) (q1) (q2) q6 u6)) rfl ?_
  refine CJ.aload X dX7_init_91 rfl (lv_at hl 0 rfl) ?_
  refine CJ.new X ck6 [.null, .int (Int32.ofInt 0), .int (Int32.ofInt 0), .int (Int32.ofInt 0), .null, .int (Int32.ofInt 0), .int (Int32.ofInt 0)] cq232 cq233 cq68 (fun j hj => by rcases (show j = 0 ∨ j = 1 ∨ j = 2 ∨ j = 3 ∨ j = 4 ∨ j = 5 ∨ j = 6 by omega) with rfl | rfl | rfl | rfl | rfl | rfl | rfl <;> rfl) (Nat.le_of_ble_eq_true rfl) (Nat.le_of_ble_eq_true rfl) dX7_init_92 (fun q7 => ?_)
  refine CJ.dup X dX7_init_95 ?_
  refine CJ.ctorN (as := []) c_X6_init X hl.1 cq234 cq235 cq68 cq236 rfl rfl ⟨by decide +kernel, by decide +kernel, (by decide +kernel : (parseMethodDescriptor YX6_init.1.desc).map (fun d => d.parameters.length) = some 0)⟩ (by decide) rfl (Nat.le_of_ble_eq_true rfl) dX7_init_96 (Nat.le_of_ble_eq_true rfl) (Nat.le_of_ble_eq_true rfl) (fun u7 hu7 => ?_)
  refine CJ.putF X hin ck7 0 rfl 7 (by decide) cq293 rfl rfl rfl rfl (Nat.le_of_ble_eq_true rfl) dX7_init_99 ([(q, .inr (7, [.ref q1, .ref q2, .ref q3, .ref q4, .int (Int32.ofInt 0), .ref q5, .ref q6, .ref q7, .null]))] ++ (mixC ca q1 u1) ++ (tasC ca (q1) q2 u2) ++ (shopC ca q3 u3) ++ (shopC ca q4 u4) ++ (hisC ca q5 u5) ++ (actC ca (q3) (q1) (q2) q6 u6) ++ (texC ca q7 u7)) rfl ?_
  refine CJ.aload X dX7_init_102 rfl (lv_at hl 0 rfl) ?_
  refine CJ.new X ck1 [.null, .null, .int (Int32.ofInt 0), .null] cq266 cq267 cq69 (fun j hj => by rcases (show j = 0 ∨ j = 1 ∨ j = 2 ∨ j = 3 by omega) with rfl | rfl | rfl | rfl <;> rfl) (Nat.le_of_ble_eq_true rfl) (Nat.le_of_ble_eq_true rfl) dX7_init_103 (fun q8 => ?_)
  refine CJ.dup X dX7_init_106 ?_
  refine CJ.aload X dX7_init_107 rfl (lv_at hl 0 rfl) ?_
  refine CJ.get X (.ref q1) ck7 0 rfl 0 (by decide) cq286 rfl dX7_init_108 ?_
  refine CJ.ctor (as := [.ref q1]) (c_X1_init (q1)) X hl.1 cq268 cq269 cq69 cq270 rfl rfl ⟨by decide +kernel, by decide +kernel, (by decide +kernel : (parseMethodDescriptor YX1_init.1.desc).map (fun d => d.parameters.length) = some 1)⟩ (by decide) rfl (Nat.le_of_ble_eq_true rfl) dX7_init_111 (Nat.le_of_ble_eq_true rfl) (Nat.le_of_ble_eq_true rfl) (fun u8 hu8 => ?_)
  refine CJ.putF X hin ck7 0 rfl 8 (by decide) cq294 rfl rfl rfl rfl (Nat.le_of_ble_eq_true rfl) dX7_init_114 ([(q, .inr (7, [.ref q1, .ref q2, .ref q3, .ref q4, .int (Int32.ofInt 0), .ref q5, .ref q6, .ref q7, .ref q8]))] ++ (mixC ca q1 u1) ++ (tasC ca (q1) q2 u2) ++ (shopC ca q3 u3) ++ (shopC ca q4 u4) ++ (hisC ca q5 u5) ++ (actC ca (q3) (q1) (q2) q6 u6) ++ (texC ca q7 u7) ++ (choC ca (q1) q8 u8)) rfl ?_
  refine CJ.vret X hr hlocks dX7_init_117 (fun _ h => h) (fun H locs t hP hD hS ht hW => ?_)
  have hP1 : va_P D vwCl (sysL ca q q1 q2 q3 q4 q5 q6 q7 q8 u1 u2 u3 u4 u5 u6 u7 u8) H := hP
  have hD1 : va_D A (sysL ca q q1 q2 q3 q4 q5 q6 q7 q8 u1 u2 u3 u4 u5 u6 u7 u8) := hD
  have hP2 := va_P_swap (k := 25) (a := u5 0) (e := .inl (ca 5, 5, .inr (.inr (.inr (.inr (hisF u5)))))) (e' := .inl (ca 5, 5, .inr (.inr (.inr (.inr fun j => some (adX stat q (sysA q q1 q2 q3 q4 q5 q6 q7 q8 u1 u2 u3 u4 u5 u6 u7 u8) ([26, 33, 40, 47, 54].getD j 0))))))) hP1 rfl (by
    have h25 := hP1 25 (u5 0, .inl (ca 5, 5, .inr (.inr (.inr (.inr (hisF u5)))))) rfl
    show H[u5 0]? = some (vp_cell _ _)
    refine Eq.trans h25 (congrArg some ?_)
    show vp_cell _ _ = vp_cell _ _
    rw [vp_cell_q, vp_cell_q]
    refine arrV_cong (fun j hj => ?_)
    rcases (show j = 0 ∨ j = 1 ∨ j = 2 ∨ j = 3 ∨ j = 4 by omega) with rfl | rfl | rfl | rfl | rfl <;> rfl)
  have hD2 : va_D A ((sysL ca q q1 q2 q3 q4 q5 q6 q7 q8 u1 u2 u3 u4 u5 u6 u7 u8).set 25 (u5 0, .inl (ca 5, 5, .inr (.inr (.inr (.inr fun j => some (adX stat q (sysA q q1 q2 q3 q4 q5 q6 q7 q8 u1 u2 u3 u4 u5 u6 u7 u8) ([26, 33, 40, 47, 54].getD j 0)))))))) := hD1.set (p := 25) (e0 := .inl (ca 5, 5, .inr (.inr (.inr (.inr (hisF u5)))))) rfl
  rw [sys_eq] at hP2 hD2
  exact ⟨⟨((sysA q q1 q2 q3 q4 q5 q6 q7 q8 u1 u2 u3 u4 u5 u6 u7 u8), u1.2), rfl, hu1, by rw [ht]; exact hP2, va_K.moved hW.alike hK, hD2⟩, hS.F ht⟩

