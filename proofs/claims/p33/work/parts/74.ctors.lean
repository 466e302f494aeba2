/-! the constructors, walked by program -/
def prF (k : Nat) : Nat → Int32 := fun j => Int32.ofInt (if j < k then (j : Int) + 1 else 0)
theorem prF_s (k : Nat) : upd (prF k) k (Int32.ofInt ((k : Int) + 1)) = prF (k + 1) := by
  funext j
  unfold upd prF
  by_cases h : j = k
  · subst h; rw [if_pos rfl, if_pos (by omega)]
  · rw [if_neg h]
    by_cases h2 : j < k
    · rw [if_pos h2, if_pos (by omega)]
    · rw [if_neg h2, if_neg (by omega)]
theorem prF_z : (fun _ => Int32.ofInt 0) = prF 0 := by
  funext j
  unfold prF
  rw [if_neg (Nat.not_lt_zero j)]
theorem prF_0 : upd (fun _ => Int32.ofInt 0) 0 (Int32.ofInt 1) = prF 1 := by rw [prF_z]; exact prF_s 0
theorem prF_1 : upd (prF 1) 1 (Int32.ofInt 2) = prF 2 := prF_s 1
theorem prF_2 : upd (prF 2) 2 (Int32.ofInt 3) = prF 3 := prF_s 2
theorem prF_3 : upd (prF 3) 3 (Int32.ofInt 4) = prF 4 := prF_s 3
theorem prF_4 : upd (prF 4) 4 (Int32.ofInt 5) = prF 5 := prF_s 4
theorem prF_5 : upd (prF 5) 5 (Int32.ofInt 6) = prF 6 := prF_s 5
theorem prF_6 : upd (prF 6) 6 (Int32.ofInt 7) = prF 7 := prF_s 6
theorem prF_7 : upd (prF 7) 7 (Int32.ofInt 8) = prF 8 := prF_s 7
theorem cq39 : Cond.instanceMethod Lib.objectInit ∈ WS := mw 39 (by decide +kernel) rfl
theorem cq40 : Cond.code Lib.objectInit ⟨#[0xb1]⟩ 1 none ∈ WS := mw 40 (by decide +kernel) rfl
theorem cq57 : Cond.methodLink RX5 3 Lib.objectInit ∈ WS := mw 57 (by decide +kernel) rfl
theorem cq58 : Cond.fieldLink RX5 37 "SpiceThrees$Tastes" "mixes" "LSpiceThrees$Mixes;" ∈ WS := mw 58 (by decide +kernel) rfl
theorem cq59 : Cond.fieldLink RX5 9 "SpiceThrees$Tastes" "rules" "[I" ∈ WS := mw 59 (by decide +kernel) rfl
theorem cq60 : Cond.fieldLink RX5 15 "SpiceThrees$Tastes" "ruled" "I" ∈ WS := mw 60 (by decide +kernel) rfl
theorem cq61 : Cond.fieldLink RX5 19 "SpiceThrees$Tastes" "strength" "I" ∈ WS := mw 61 (by decide +kernel) rfl
theorem cq63 : Cond.fieldLink RX5 22 "SpiceThrees$Tastes" "leads" "[I" ∈ WS := mw 63 (by decide +kernel) rfl
theorem cq64 : Cond.fieldLink RX5 25 "SpiceThrees$Tastes" "trial" "[I" ∈ WS := mw 64 (by decide +kernel) rfl
theorem cq65 : Cond.fieldLink RX5 28 "SpiceThrees$Tastes" "parts" "[I" ∈ WS := mw 65 (by decide +kernel) rfl
theorem cq66 : Cond.fieldLink RX5 31 "SpiceThrees$Tastes" "lowCosts" "[I" ∈ WS := mw 66 (by decide +kernel) rfl
theorem cq67 : Cond.fieldLink RX5 34 "SpiceThrees$Tastes" "highCosts" "[I" ∈ WS := mw 67 (by decide +kernel) rfl
theorem cq87 : Cond.arrayClass .int ∈ WS := mw 87 (by decide +kernel) rfl
theorem cq93 : Cond.methodLink RX4 3 Lib.objectInit ∈ WS := mw 93 (by decide +kernel) rfl
theorem cq94 : Cond.fieldLink RX4 9 "SpiceThrees$Shop" "numbers" "[I" ∈ WS := mw 94 (by decide +kernel) rfl
theorem cq96 : Cond.fieldLink RX4 15 "SpiceThrees$Shop" "mixes" "[I" ∈ WS := mw 96 (by decide +kernel) rfl
theorem cq101 : Cond.fieldLink RX4 18 "SpiceThrees$Shop" "jars" "I" ∈ WS := mw 101 (by decide +kernel) rfl
theorem cq105 : Cond.fieldLink RX4 22 "SpiceThrees$Shop" "came" "I" ∈ WS := mw 105 (by decide +kernel) rfl
theorem cq106 : Cond.fieldLink RX4 25 "SpiceThrees$Shop" "rules" "[I" ∈ WS := mw 106 (by decide +kernel) rfl
theorem cq110 : Cond.fieldLink RX4 28 "SpiceThrees$Shop" "ruled" "I" ∈ WS := mw 110 (by decide +kernel) rfl
theorem cq114 : Cond.fieldLink RX4 31 "SpiceThrees$Shop" "prices" "[I" ∈ WS := mw 114 (by decide +kernel) rfl
theorem cq117 : Cond.fieldLink RX4 34 "SpiceThrees$Shop" "wants" "[I" ∈ WS := mw 117 (by decide +kernel) rfl
theorem cq120 : Cond.fieldLink RX4 37 "SpiceThrees$Shop" "waits" "I" ∈ WS := mw 120 (by decide +kernel) rfl
theorem cq123 : Cond.fieldLink RX4 40 "SpiceThrees$Shop" "accounts" "[I" ∈ WS := mw 123 (by decide +kernel) rfl
theorem cq172 : Cond.methodLink RX0 3 Lib.objectInit ∈ WS := mw 172 (by decide +kernel) rfl
theorem cq173 : Cond.fieldLink RX0 15 "SpiceThrees$Acts" "shop" "LSpiceThrees$Shop;" ∈ WS := mw 173 (by decide +kernel) rfl
theorem cq174 : Cond.fieldLink RX0 19 "SpiceThrees$Acts" "mixes" "LSpiceThrees$Mixes;" ∈ WS := mw 174 (by decide +kernel) rfl
theorem cq175 : Cond.fieldLink RX0 23 "SpiceThrees$Acts" "tastes" "LSpiceThrees$Tastes;" ∈ WS := mw 175 (by decide +kernel) rfl
theorem cq176 : Cond.fieldLink RX0 9 "SpiceThrees$Acts" "amounts" "[I" ∈ WS := mw 176 (by decide +kernel) rfl
theorem cq191 : Cond.methodLink RX6 3 Lib.objectInit ∈ WS := mw 191 (by decide +kernel) rfl
theorem cq192 : Cond.fieldLink RX6 9 "SpiceThrees$Text" "signs" "[C" ∈ WS := mw 192 (by decide +kernel) rfl
theorem cq193 : Cond.fieldLink RX6 15 "SpiceThrees$Text" "length" "I" ∈ WS := mw 193 (by decide +kernel) rfl
theorem cq195 : Cond.fieldLink RX6 19 "SpiceThrees$Text" "at" "I" ∈ WS := mw 195 (by decide +kernel) rfl
theorem cq196 : Cond.fieldLink RX6 22 "SpiceThrees$Text" "word" "I" ∈ WS := mw 196 (by decide +kernel) rfl
theorem cq197 : Cond.fieldLink RX6 25 "SpiceThrees$Text" "amounts" "[I" ∈ WS := mw 197 (by decide +kernel) rfl
theorem cq198 : Cond.fieldLink RX6 29 "SpiceThrees$Text" "first" "I" ∈ WS := mw 198 (by decide +kernel) rfl
theorem cq199 : Cond.fieldLink RX6 32 "SpiceThrees$Text" "second" "I" ∈ WS := mw 199 (by decide +kernel) rfl
theorem cq215 : Cond.arrayClass .char ∈ WS := mw 215 (by decide +kernel) rfl
theorem cq221 : Cond.methodLink RX1 3 Lib.objectInit ∈ WS := mw 221 (by decide +kernel) rfl
theorem cq222 : Cond.fieldLink RX1 23 "SpiceThrees$Choices" "mixes" "LSpiceThrees$Mixes;" ∈ WS := mw 222 (by decide +kernel) rfl
theorem cq223 : Cond.fieldLink RX1 9 "SpiceThrees$Choices" "sums" "[S" ∈ WS := mw 223 (by decide +kernel) rfl
theorem cq224 : Cond.fieldLink RX1 15 "SpiceThrees$Choices" "sets" "I" ∈ WS := mw 224 (by decide +kernel) rfl
theorem cq225 : Cond.fieldLink RX1 19 "SpiceThrees$Choices" "seen" "[I" ∈ WS := mw 225 (by decide +kernel) rfl
theorem cq235 : Cond.arrayClass .short ∈ WS := mw 235 (by decide +kernel) rfl
def shopC (ca : Nat → ClassId) (q : Nat) (u : Nat → Nat) : va_W := [(q, .inr (4, [.ref (u 0), .ref (u 1), .int (Int32.ofInt 0), .int (Int32.ofInt 0), .ref (u 2), .int (Int32.ofInt 0), .ref (u 3), .ref (u 4), .int (Int32.ofInt 0), .ref (u 5)])), ((u 0), .inl (ca 0, 12, .inl fun _ => Int32.ofInt 0)), ((u 1), .inl (ca 0, 12, .inl fun _ => Int32.ofInt 0)), ((u 2), .inl (ca 0, 8, .inl fun _ => Int32.ofInt 0)), ((u 3), .inl (ca 0, 8, .inl (prF 8))), ((u 4), .inl (ca 0, 8, .inl fun _ => Int32.ofInt 0)), ((u 5), .inl (ca 0, 8, .inl fun _ => Int32.ofInt 0))]
def YX4_init : MR := (yX4_init, cX4_init, 2, none, 1, 12)
set_option maxHeartbeats 4000000 in
set_option maxRecDepth 100000 in
theorem c_X4_init {l : Launch} {D : va_G} {ca : Nat → ClassId} : MC l D ca YX4_init 4 [.null, .null, .int (Int32.ofInt 0), .int (Int32.ofInt 0), .null, .int (Int32.ofInt 0), .null, .null, .int (Int32.ofInt 0), .null] [] 6 56 (fun _ => True : (Nat → Nat) → Prop) (shopC ca) := by
  intro q sz
  refine Met.ofW (cc := cX4_init) (maxL := 2) (ret := none) (by decide) rfl ?_
  intro p e s m args below meth c s₁ B hml hv
  obtain ⟨rfl, hsz, hP, hK, hD0, hNw, hAO⟩ := hv
  have hr := B.returns
  have hlocks := B.notSynchronized
  have hts0 := atoms_spec (ws := wsY YX4_init) B.pre
  have hin : meth.name = "<init>" := (name_of_methodNamed B.named B.method).1
  have hown : s.vm.findClass RX4 = some m.cls := findClass_of_methodNamed B.named
  subst hsz
  have hD := hD0.self (sz := s.heap.size)
  have hl := lv_entry ([.ref q]) (n := 2) (Nat.le_of_ble_eq_true rfl)
  rw [lg_entry_eq]
  generalize (lg_sl ([.ref q]) ++ List.replicate (2 - (lg_sl ([.ref q])).length) Slot.unset).toArray = ls at hl ⊢
  have hl : lv_has ls 2 [(0, .ref q)] := hl
  generalize hAe : va_A [(q, .inr (4, [.null, .null, .int (Int32.ofInt 0), .int (Int32.ofInt 0), .null, .int (Int32.ofInt 0), .null, .null, .int (Int32.ofInt 0), .null]))] s.heap.size = A at hD ⊢
  have X : CE D ca RX4 cX4_init 2 p s m _ c A := ⟨B.exec, B.bytes, hml, hown, fun w hw => hts0 w (List.mem_cons_of_mem _ hw), hK, fun z hz => by rw [← hAe]; exact Or.inr hz, hNw, hAO⟩
  refine (?_ : CJ p l e _ s m _ below meth c _ D A [(q, .inr (4, [.null, .null, .int (Int32.ofInt 0), .int (Int32.ofInt 0), .null, .int (Int32.ofInt 0), .null, .null, .int (Int32.ofInt 0), .null]))] 0 0 0 ls []) s.heap [] hP hD va_S.rf
  refine CJ.aload X dX4_init_0 rfl (lv_at hl 0 rfl) ?_
  refine CJ.objInit X hl.1 cq93 cq39 cq40 dX4_init_1 (Nat.le_of_ble_eq_true rfl) (Nat.le_of_ble_eq_true rfl) ?_
  refine CJ.aload X dX4_init_4 rfl (lv_at hl 0 rfl) ?_
  refine CJ.bipush X (Int32.ofInt 12) dX4_init_5 (by decide) ?_
  refine CJ.arr (atype := .int) (ty := .int) X 0 rfl rfl (fun _ h => h) cq87 rfl 12 (by decide) (by decide) (Nat.le_of_ble_eq_true rfl) (Nat.le_of_ble_eq_true rfl) (Nat.le_of_ble_eq_true rfl) dX4_init_7 (fun q1 => ?_)
  refine CJ.putF X hin ck4 0 rfl 0 (by decide) cq94 rfl rfl rfl rfl (Nat.le_of_ble_eq_true rfl) dX4_init_9 [(q, .inr (4, [.ref q1, .null, .int (Int32.ofInt 0), .int (Int32.ofInt 0), .null, .int (Int32.ofInt 0), .null, .null, .int (Int32.ofInt 0), .null])), (q1, .inl (ca 0, 12, .inl fun _ => Int32.ofInt 0))] rfl ?_
  refine CJ.aload X dX4_init_12 rfl (lv_at hl 0 rfl) ?_
  refine CJ.bipush X (Int32.ofInt 12) dX4_init_13 (by decide) ?_
  refine CJ.arr (atype := .int) (ty := .int) X 0 rfl rfl (fun _ h => h) cq87 rfl 12 (by decide) (by decide) (Nat.le_of_ble_eq_true rfl) (Nat.le_of_ble_eq_true rfl) (Nat.le_of_ble_eq_true rfl) dX4_init_15 (fun q2 => ?_)
  refine CJ.putF X hin ck4 0 rfl 1 (by decide) cq96 rfl rfl rfl rfl (Nat.le_of_ble_eq_true rfl) dX4_init_17 [(q, .inr (4, [.ref q1, .ref q2, .int (Int32.ofInt 0), .int (Int32.ofInt 0), .null, .int (Int32.ofInt 0), .null, .null, .int (Int32.ofInt 0), .null])), (q1, .inl (ca 0, 12, .inl fun _ => Int32.ofInt 0)), (q2, .inl (ca 0, 12, .inl fun _ => Int32.ofInt 0))] rfl ?_
  refine CJ.aload X dX4_init_20 rfl (lv_at hl 0 rfl) ?_
  refine CJ.iconst X (Int32.ofInt 0) dX4_init_21 (by decide) ?_
  refine CJ.put X ck4 0 rfl 2 (by decide) cq101 rfl rfl rfl (Nat.le_of_ble_eq_true rfl) dX4_init_22 [(q, .inr (4, [.ref q1, .ref q2, .int (Int32.ofInt 0), .int (Int32.ofInt 0), .null, .int (Int32.ofInt 0), .null, .null, .int (Int32.ofInt 0), .null])), (q1, .inl (ca 0, 12, .inl fun _ => Int32.ofInt 0)), (q2, .inl (ca 0, 12, .inl fun _ => Int32.ofInt 0))] rfl ?_
  refine CJ.aload X dX4_init_25 rfl (lv_at hl 0 rfl) ?_
  refine CJ.iconst X (Int32.ofInt 0) dX4_init_26 (by decide) ?_
  refine CJ.put X ck4 0 rfl 3 (by decide) cq105 rfl rfl rfl (Nat.le_of_ble_eq_true rfl) dX4_init_27 [(q, .inr (4, [.ref q1, .ref q2, .int (Int32.ofInt 0), .int (Int32.ofInt 0), .null, .int (Int32.ofInt 0), .null, .null, .int (Int32.ofInt 0), .null])), (q1, .inl (ca 0, 12, .inl fun _ => Int32.ofInt 0)), (q2, .inl (ca 0, 12, .inl fun _ => Int32.ofInt 0))] rfl ?_
  refine CJ.aload X dX4_init_30 rfl (lv_at hl 0 rfl) ?_
  refine CJ.bipush X (Int32.ofInt 8) dX4_init_31 (by decide) ?_
  refine CJ.arr (atype := .int) (ty := .int) X 0 rfl rfl (fun _ h => h) cq87 rfl 8 (by decide) (by decide) (Nat.le_of_ble_eq_true rfl) (Nat.le_of_ble_eq_true rfl) (Nat.le_of_ble_eq_true rfl) dX4_init_33 (fun q3 => ?_)
  refine CJ.putF X hin ck4 0 rfl 4 (by decide) cq106 rfl rfl rfl rfl (Nat.le_of_ble_eq_true rfl) dX4_init_35 [(q, .inr (4, [.ref q1, .ref q2, .int (Int32.ofInt 0), .int (Int32.ofInt 0), .ref q3, .int (Int32.ofInt 0), .null, .null, .int (Int32.ofInt 0), .null])), (q1, .inl (ca 0, 12, .inl fun _ => Int32.ofInt 0)), (q2, .inl (ca 0, 12, .inl fun _ => Int32.ofInt 0)), (q3, .inl (ca 0, 8, .inl fun _ => Int32.ofInt 0))] rfl ?_
  refine CJ.aload X dX4_init_38 rfl (lv_at hl 0 rfl) ?_
  refine CJ.iconst X (Int32.ofInt 0) dX4_init_39 (by decide) ?_
  refine CJ.put X ck4 0 rfl 5 (by decide) cq110 rfl rfl rfl (Nat.le_of_ble_eq_true rfl) dX4_init_40 [(q, .inr (4, [.ref q1, .ref q2, .int (Int32.ofInt 0), .int (Int32.ofInt 0), .ref q3, .int (Int32.ofInt 0), .null, .null, .int (Int32.ofInt 0), .null])), (q1, .inl (ca 0, 12, .inl fun _ => Int32.ofInt 0)), (q2, .inl (ca 0, 12, .inl fun _ => Int32.ofInt 0)), (q3, .inl (ca 0, 8, .inl fun _ => Int32.ofInt 0))] rfl ?_
  refine CJ.aload X dX4_init_43 rfl (lv_at hl 0 rfl) ?_
  refine CJ.bipush X (Int32.ofInt 8) dX4_init_44 (by decide) ?_
  refine CJ.arr (atype := .int) (ty := .int) X 0 rfl rfl (fun _ h => h) cq87 rfl 8 (by decide) (by decide) (Nat.le_of_ble_eq_true rfl) (Nat.le_of_ble_eq_true rfl) (Nat.le_of_ble_eq_true rfl) dX4_init_46 (fun q4 => ?_)
  refine CJ.putF X hin ck4 0 rfl 6 (by decide) cq114 rfl rfl rfl rfl (Nat.le_of_ble_eq_true rfl) dX4_init_48 [(q, .inr (4, [.ref q1, .ref q2, .int (Int32.ofInt 0), .int (Int32.ofInt 0), .ref q3, .int (Int32.ofInt 0), .ref q4, .null, .int (Int32.ofInt 0), .null])), (q1, .inl (ca 0, 12, .inl fun _ => Int32.ofInt 0)), (q2, .inl (ca 0, 12, .inl fun _ => Int32.ofInt 0)), (q3, .inl (ca 0, 8, .inl fun _ => Int32.ofInt 0)), (q4, .inl (ca 0, 8, .inl fun _ => Int32.ofInt 0))] rfl ?_
  refine CJ.aload X dX4_init_51 rfl (lv_at hl 0 rfl) ?_
  refine CJ.bipush X (Int32.ofInt 8) dX4_init_52 (by decide) ?_
  refine CJ.arr (atype := .int) (ty := .int) X 0 rfl rfl (fun _ h => h) cq87 rfl 8 (by decide) (by decide) (Nat.le_of_ble_eq_true rfl) (Nat.le_of_ble_eq_true rfl) (Nat.le_of_ble_eq_true rfl) dX4_init_54 (fun q5 => ?_)
  refine CJ.putF X hin ck4 0 rfl 7 (by decide) cq117 rfl rfl rfl rfl (Nat.le_of_ble_eq_true rfl) dX4_init_56 [(q, .inr (4, [.ref q1, .ref q2, .int (Int32.ofInt 0), .int (Int32.ofInt 0), .ref q3, .int (Int32.ofInt 0), .ref q4, .ref q5, .int (Int32.ofInt 0), .null])), (q1, .inl (ca 0, 12, .inl fun _ => Int32.ofInt 0)), (q2, .inl (ca 0, 12, .inl fun _ => Int32.ofInt 0)), (q3, .inl (ca 0, 8, .inl fun _ => Int32.ofInt 0)), (q4, .inl (ca 0, 8, .inl fun _ => Int32.ofInt 0)), (q5, .inl (ca 0, 8, .inl fun _ => Int32.ofInt 0))] rfl ?_
  refine CJ.aload X dX4_init_59 rfl (lv_at hl 0 rfl) ?_
  refine CJ.iconst X (Int32.ofInt 0) dX4_init_60 (by decide) ?_
  refine CJ.put X ck4 0 rfl 8 (by decide) cq120 rfl rfl rfl (Nat.le_of_ble_eq_true rfl) dX4_init_61 [(q, .inr (4, [.ref q1, .ref q2, .int (Int32.ofInt 0), .int (Int32.ofInt 0), .ref q3, .int (Int32.ofInt 0), .ref q4, .ref q5, .int (Int32.ofInt 0), .null])), (q1, .inl (ca 0, 12, .inl fun _ => Int32.ofInt 0)), (q2, .inl (ca 0, 12, .inl fun _ => Int32.ofInt 0)), (q3, .inl (ca 0, 8, .inl fun _ => Int32.ofInt 0)), (q4, .inl (ca 0, 8, .inl fun _ => Int32.ofInt 0)), (q5, .inl (ca 0, 8, .inl fun _ => Int32.ofInt 0))] rfl ?_
  refine CJ.aload X dX4_init_64 rfl (lv_at hl 0 rfl) ?_
  refine CJ.bipush X (Int32.ofInt 8) dX4_init_65 (by decide) ?_
  refine CJ.arr (atype := .int) (ty := .int) X 0 rfl rfl (fun _ h => h) cq87 rfl 8 (by decide) (by decide) (Nat.le_of_ble_eq_true rfl) (Nat.le_of_ble_eq_true rfl) (Nat.le_of_ble_eq_true rfl) dX4_init_67 (fun q6 => ?_)
  refine CJ.putF X hin ck4 0 rfl 9 (by decide) cq123 rfl rfl rfl rfl (Nat.le_of_ble_eq_true rfl) dX4_init_69 [(q, .inr (4, [.ref q1, .ref q2, .int (Int32.ofInt 0), .int (Int32.ofInt 0), .ref q3, .int (Int32.ofInt 0), .ref q4, .ref q5, .int (Int32.ofInt 0), .ref q6])), (q1, .inl (ca 0, 12, .inl fun _ => Int32.ofInt 0)), (q2, .inl (ca 0, 12, .inl fun _ => Int32.ofInt 0)), (q3, .inl (ca 0, 8, .inl fun _ => Int32.ofInt 0)), (q4, .inl (ca 0, 8, .inl fun _ => Int32.ofInt 0)), (q5, .inl (ca 0, 8, .inl fun _ => Int32.ofInt 0)), (q6, .inl (ca 0, 8, .inl fun _ => Int32.ofInt 0))] rfl ?_
  refine CJ.iconst X (Int32.ofInt 0) dX4_init_72 (by decide) ?_
  refine CJ.istore X [(1, .int (Int32.ofInt 0)), (0, .ref q)] dX4_init_73 rfl hl (by decide) rfl (fun ls hl => ?_)
  refine CJ.iload X dX4_init_74 rfl (lv_at hl 0 rfl) ?_
  refine CJ.bipush X (Int32.ofInt 8) dX4_init_75 (by decide) ?_
  refine CJ.ge_n X 95 dX4_init_77 (by decide) (by decide) ?_
  refine CJ.aload X dX4_init_80 rfl (lv_at hl 1 rfl) ?_
  refine CJ.get X (.ref q4) ck4 0 rfl 6 (by decide) cq114 rfl dX4_init_81 ?_
  refine CJ.iload X dX4_init_84 rfl (lv_at hl 0 rfl) ?_
  refine CJ.iload X dX4_init_85 rfl (lv_at hl 0 rfl) ?_
  refine CJ.iconst X (Int32.ofInt 1) dX4_init_86 (by decide) ?_
  refine CJ.iadd X (Int32.ofInt 1) dX4_init_87 (by decide) ?_
  refine CJ.iast X 4 rfl 0 (vin_of (i := 0) (by decide) (by decide) (by decide)) (oi_clamp (x := 0) (by decide)) dX4_init_88 [(q, .inr (4, [.ref q1, .ref q2, .int (Int32.ofInt 0), .int (Int32.ofInt 0), .ref q3, .int (Int32.ofInt 0), .ref q4, .ref q5, .int (Int32.ofInt 0), .ref q6])), (q1, .inl (ca 0, 12, .inl fun _ => Int32.ofInt 0)), (q2, .inl (ca 0, 12, .inl fun _ => Int32.ofInt 0)), (q3, .inl (ca 0, 8, .inl fun _ => Int32.ofInt 0)), (q4, .inl (ca 0, 8, .inl (prF 1))), (q5, .inl (ca 0, 8, .inl fun _ => Int32.ofInt 0)), (q6, .inl (ca 0, 8, .inl fun _ => Int32.ofInt 0))] (by rw [prF_0]; rfl) ?_
  refine CJ.iinc (k := 0) X (Int32.ofInt 1) [(1, .int (Int32.ofInt 1)), (0, .ref q)] dX4_init_89 hl rfl (by decide) (by decide) rfl (fun ls hl => ?_)
  refine CJ.goto X 74 dX4_init_92 (by decide) ?_
  refine CJ.iload X dX4_init_74 rfl (lv_at hl 0 rfl) ?_
  refine CJ.bipush X (Int32.ofInt 8) dX4_init_75 (by decide) ?_
  refine CJ.ge_n X 95 dX4_init_77 (by decide) (by decide) ?_
  refine CJ.aload X dX4_init_80 rfl (lv_at hl 1 rfl) ?_
  refine CJ.get X (.ref q4) ck4 0 rfl 6 (by decide) cq114 rfl dX4_init_81 ?_
  refine CJ.iload X dX4_init_84 rfl (lv_at hl 0 rfl) ?_
  refine CJ.iload X dX4_init_85 rfl (lv_at hl 0 rfl) ?_
  refine CJ.iconst X (Int32.ofInt 1) dX4_init_86 (by decide) ?_
  refine CJ.iadd X (Int32.ofInt 2) dX4_init_87 (by decide) ?_
  refine CJ.iast X 4 rfl 1 (vin_of (i := 1) (by decide) (by decide) (by decide)) (oi_clamp (x := 1) (by decide)) dX4_init_88 [(q, .inr (4, [.ref q1, .ref q2, .int (Int32.ofInt 0), .int (Int32.ofInt 0), .ref q3, .int (Int32.ofInt 0), .ref q4, .ref q5, .int (Int32.ofInt 0), .ref q6])), (q1, .inl (ca 0, 12, .inl fun _ => Int32.ofInt 0)), (q2, .inl (ca 0, 12, .inl fun _ => Int32.ofInt 0)), (q3, .inl (ca 0, 8, .inl fun _ => Int32.ofInt 0)), (q4, .inl (ca 0, 8, .inl (prF 2))), (q5, .inl (ca 0, 8, .inl fun _ => Int32.ofInt 0)), (q6, .inl (ca 0, 8, .inl fun _ => Int32.ofInt 0))] (by rw [prF_1]; rfl) ?_
  refine CJ.iinc (k := 0) X (Int32.ofInt 2) [(1, .int (Int32.ofInt 2)), (0, .ref q)] dX4_init_89 hl rfl (by decide) (by decide) rfl (fun ls hl => ?_)
  refine CJ.goto X 74 dX4_init_92 (by decide) ?_
  refine CJ.iload X dX4_init_74 rfl (lv_at hl 0 rfl) ?_
  refine CJ.bipush X (Int32.ofInt 8) dX4_init_75 (by decide) ?_
  refine CJ.ge_n X 95 dX4_init_77 (by decide) (by decide) ?_
  refine CJ.aload X dX4_init_80 rfl (lv_at hl 1 rfl) ?_
  refine CJ.get X (.ref q4) ck4 0 rfl 6 (by decide) cq114 rfl dX4_init_81 ?_
  refine CJ.iload X dX4_init_84 rfl (lv_at hl 0 rfl) ?_
  refine CJ.iload X dX4_init_85 rfl (lv_at hl 0 rfl) ?_
  refine CJ.iconst X (Int32.ofInt 1) dX4_init_86 (by decide) ?_
  refine CJ.iadd X (Int32.ofInt 3) dX4_init_87 (by decide) ?_
  refine CJ.iast X 4 rfl 2 (vin_of (i := 2) (by decide) (by decide) (by decide)) (oi_clamp (x := 2) (by decide)) dX4_init_88 [(q, .inr (4, [.ref q1, .ref q2, .int (Int32.ofInt 0), .int (Int32.ofInt 0), .ref q3, .int (Int32.ofInt 0), .ref q4, .ref q5, .int (Int32.ofInt 0), .ref q6])), (q1, .inl (ca 0, 12, .inl fun _ => Int32.ofInt 0)), (q2, .inl (ca 0, 12, .inl fun _ => Int32.ofInt 0)), (q3, .inl (ca 0, 8, .inl fun _ => Int32.ofInt 0)), (q4, .inl (ca 0, 8, .inl (prF 3))), (q5, .inl (ca 0, 8, .inl fun _ => Int32.ofInt 0)), (q6, .inl (ca 0, 8, .inl fun _ => Int32.ofInt 0))] (by rw [prF_2]; rfl) ?_
  refine CJ.iinc (k := 0) X (Int32.ofInt 3) [(1, .int (Int32.ofInt 3)), (0, .ref q)] dX4_init_89 hl rfl (by decide) (by decide) rfl (fun ls hl => ?_)
  refine CJ.goto X 74 dX4_init_92 (by decide) ?_
  refine CJ.iload X dX4_init_74 rfl (lv_at hl 0 rfl) ?_
  refine CJ.bipush X (Int32.ofInt 8) dX4_init_75 (by decide) ?_
  refine CJ.ge_n X 95 dX4_init_77 (by decide) (by decide) ?_
  refine CJ.aload X dX4_init_80 rfl (lv_at hl 1 rfl) ?_
  refine CJ.get X (.ref q4) ck4 0 rfl 6 (by decide) cq114 rfl dX4_init_81 ?_
  refine CJ.iload X dX4_init_84 rfl (lv_at hl 0 rfl) ?_
  refine CJ.iload X dX4_init_85 rfl (lv_at hl 0 rfl) ?_
  refine CJ.iconst X (Int32.ofInt 1) dX4_init_86 (by decide) ?_
  refine CJ.iadd X (Int32.ofInt 4) dX4_init_87 (by decide) ?_
  refine CJ.iast X 4 rfl 3 (vin_of (i := 3) (by decide) (by decide) (by decide)) (oi_clamp (x := 3) (by decide)) dX4_init_88 [(q, .inr (4, [.ref q1, .ref q2, .int (Int32.ofInt 0), .int (Int32.ofInt 0), .ref q3, .int (Int32.ofInt 0), .ref q4, .ref q5, .int (Int32.ofInt 0), .ref q6])), (q1, .inl (ca 0, 12, .inl fun _ => Int32.ofInt 0)), (q2, .inl (ca 0, 12, .inl fun _ => Int32.ofInt 0)), (q3, .inl (ca 0, 8, .inl fun _ => Int32.ofInt 0)), (q4, .inl (ca 0, 8, .inl (prF 4))), (q5, .inl (ca 0, 8, .inl fun _ => Int32.ofInt 0)), (q6, .inl (ca 0, 8, .inl fun _ => Int32.ofInt 0))] (by rw [prF_3]; rfl) ?_
  refine CJ.iinc (k := 0) X (Int32.ofInt 4) [(1, .int (Int32.ofInt 4)), (0, .ref q)] dX4_init_89 hl rfl (by decide) (by decide) rfl (fun ls hl => ?_)
  refine CJ.goto X 74 dX4_init_92 (by decide) ?_
  refine CJ.iload X dX4_init_74 rfl (lv_at hl 0 rfl) ?_
  refine CJ.bipush X (Int32.ofInt 8) dX4_init_75 (by decide) ?_
  refine CJ.ge_n X 95 dX4_init_77 (by decide) (by decide) ?_
  refine CJ.aload X dX4_init_80 rfl (lv_at hl 1 rfl) ?_
  refine CJ.get X (.ref q4) ck4 0 rfl 6 (by decide) cq114 rfl dX4_init_81 ?_
  refine CJ.iload X dX4_init_84 rfl (lv_at hl 0 rfl) ?_
  refine CJ.iload X dX4_init_85 rfl (lv_at hl 0 rfl) ?_
  refine CJ.iconst X (Int32.ofInt 1) dX4_init_86 (by decide) ?_
  refine CJ.iadd X (Int32.ofInt 5) dX4_init_87 (by decide) ?_
  refine CJ.iast X 4 rfl 4 (vin_of (i := 4) (by decide) (by decide) (by decide)) (oi_clamp (x := 4) (by decide)) dX4_init_88 [(q, .inr (4, [.ref q1, .ref q2, .int (Int32.ofInt 0), .int (Int32.ofInt 0), .ref q3, .int (Int32.ofInt 0), .ref q4, .ref q5, .int (Int32.ofInt 0), .ref q6])), (q1, .inl (ca 0, 12, .inl fun _ => Int32.ofInt 0)), (q2, .inl (ca 0, 12, .inl fun _ => Int32.ofInt 0)), (q3, .inl (ca 0, 8, .inl fun _ => Int32.ofInt 0)), (q4, .inl (ca 0, 8, .inl (prF 5))), (q5, .inl (ca 0, 8, .inl fun _ => Int32.ofInt 0)), (q6, .inl (ca 0, 8, .inl fun _ => Int32.ofInt 0))] (by rw [prF_4]; rfl) ?_
  refine CJ.iinc (k := 0) X (Int32.ofInt 5) [(1, .int (Int32.ofInt 5)), (0, .ref q)] dX4_init_89 hl rfl (by decide) (by decide) rfl (fun ls hl => ?_)
  refine CJ.goto X 74 dX4_init_92 (by decide) ?_
  refine CJ.iload X dX4_init_74 rfl (lv_at hl 0 rfl) ?_
  refine CJ.bipush X (Int32.ofInt 8) dX4_init_75 (by decide) ?_
  refine CJ.ge_n X 95 dX4_init_77 (by decide) (by decide) ?_
  refine CJ.aload X dX4_init_80 rfl (lv_at hl 1 rfl) ?_
  refine CJ.get X (.ref q4) ck4 0 rfl 6 (by decide) cq114 rfl dX4_init_81 ?_
  refine CJ.iload X dX4_init_84 rfl (lv_at hl 0 rfl) ?_
  refine CJ.iload X dX4_init_85 rfl (lv_at hl 0 rfl) ?_
  refine CJ.iconst X (Int32.ofInt 1) dX4_init_86 (by decide) ?_
  refine CJ.iadd X (Int32.ofInt 6) dX4_init_87 (by decide) ?_
  refine CJ.iast X 4 rfl 5 (vin_of (i := 5) (by decide) (by decide) (by decide)) (oi_clamp (x := 5) (by decide)) dX4_init_88 [(q, .inr (4, [.ref q1, .ref q2, .int (Int32.ofInt 0), .int (Int32.ofInt 0), .ref q3, .int (Int32.ofInt 0), .ref q4, .ref q5, .int (Int32.ofInt 0), .ref q6])), (q1, .inl (ca 0, 12, .inl fun _ => Int32.ofInt 0)), (q2, .inl (ca 0, 12, .inl fun _ => Int32.ofInt 0)), (q3, .inl (ca 0, 8, .inl fun _ => Int32.ofInt 0)), (q4, .inl (ca 0, 8, .inl (prF 6))), (q5, .inl (ca 0, 8, .inl fun _ => Int32.ofInt 0)), (q6, .inl (ca 0, 8, .inl fun _ => Int32.ofInt 0))] (by rw [prF_5]; rfl) ?_
  refine CJ.iinc (k := 0) X (Int32.ofInt 6) [(1, .int (Int32.ofInt 6)), (0, .ref q)] dX4_init_89 hl rfl (by decide) (by decide) rfl (fun ls hl => ?_)
  refine CJ.goto X 74 dX4_init_92 (by decide) ?_
  refine CJ.iload X dX4_init_74 rfl (lv_at hl 0 rfl) ?_
  refine CJ.bipush X (Int32.ofInt 8) dX4_init_75 (by decide) ?_
  refine CJ.ge_n X 95 dX4_init_77 (by decide) (by decide) ?_
  refine CJ.aload X dX4_init_80 rfl (lv_at hl 1 rfl) ?_
  refine CJ.get X (.ref q4) ck4 0 rfl 6 (by decide) cq114 rfl dX4_init_81 ?_
  refine CJ.iload X dX4_init_84 rfl (lv_at hl 0 rfl) ?_
  refine CJ.iload X dX4_init_85 rfl (lv_at hl 0 rfl) ?_
  refine CJ.iconst X (Int32.ofInt 1) dX4_init_86 (by decide) ?_
  refine CJ.iadd X (Int32.ofInt 7) dX4_init_87 (by decide) ?_
  refine CJ.iast X 4 rfl 6 (vin_of (i := 6) (by decide) (by decide) (by decide)) (oi_clamp (x := 6) (by decide)) dX4_init_88 [(q, .inr (4, [.ref q1, .ref q2, .int (Int32.ofInt 0), .int (Int32.ofInt 0), .ref q3, .int (Int32.ofInt 0), .ref q4, .ref q5, .int (Int32.ofInt 0), .ref q6])), (q1, .inl (ca 0, 12, .inl fun _ => Int32.ofInt 0)), (q2, .inl (ca 0, 12, .inl fun _ => Int32.ofInt 0)), (q3, .inl (ca 0, 8, .inl fun _ => Int32.ofInt 0)), (q4, .inl (ca 0, 8, .inl (prF 7))), (q5, .inl (ca 0, 8, .inl fun _ => Int32.ofInt 0)), (q6, .inl (ca 0, 8, .inl fun _ => Int32.ofInt 0))] (by rw [prF_6]; rfl) ?_
  refine CJ.iinc (k := 0) X (Int32.ofInt 7) [(1, .int (Int32.ofInt 7)), (0, .ref q)] dX4_init_89 hl rfl (by decide) (by decide) rfl (fun ls hl => ?_)
  refine CJ.goto X 74 dX4_init_92 (by decide) ?_
  refine CJ.iload X dX4_init_74 rfl (lv_at hl 0 rfl) ?_
  refine CJ.bipush X (Int32.ofInt 8) dX4_init_75 (by decide) ?_
  refine CJ.ge_n X 95 dX4_init_77 (by decide) (by decide) ?_
  refine CJ.aload X dX4_init_80 rfl (lv_at hl 1 rfl) ?_
  refine CJ.get X (.ref q4) ck4 0 rfl 6 (by decide) cq114 rfl dX4_init_81 ?_
  refine CJ.iload X dX4_init_84 rfl (lv_at hl 0 rfl) ?_
  refine CJ.iload X dX4_init_85 rfl (lv_at hl 0 rfl) ?_
  refine CJ.iconst X (Int32.ofInt 1) dX4_init_86 (by decide) ?_
  refine CJ.iadd X (Int32.ofInt 8) dX4_init_87 (by decide) ?_
  refine CJ.iast X 4 rfl 7 (vin_of (i := 7) (by decide) (by decide) (by decide)) (oi_clamp (x := 7) (by decide)) dX4_init_88 [(q, .inr (4, [.ref q1, .ref q2, .int (Int32.ofInt 0), .int (Int32.ofInt 0), .ref q3, .int (Int32.ofInt 0), .ref q4, .ref q5, .int (Int32.ofInt 0), .ref q6])), (q1, .inl (ca 0, 12, .inl fun _ => Int32.ofInt 0)), (q2, .inl (ca 0, 12, .inl fun _ => Int32.ofInt 0)), (q3, .inl (ca 0, 8, .inl fun _ => Int32.ofInt 0)), (q4, .inl (ca 0, 8, .inl (prF 8))), (q5, .inl (ca 0, 8, .inl fun _ => Int32.ofInt 0)), (q6, .inl (ca 0, 8, .inl fun _ => Int32.ofInt 0))] (by rw [prF_7]; rfl) ?_
  refine CJ.iinc (k := 0) X (Int32.ofInt 8) [(1, .int (Int32.ofInt 8)), (0, .ref q)] dX4_init_89 hl rfl (by decide) (by decide) rfl (fun ls hl => ?_)
  refine CJ.goto X 74 dX4_init_92 (by decide) ?_
  refine CJ.iload X dX4_init_74 rfl (lv_at hl 0 rfl) ?_
  refine CJ.bipush X (Int32.ofInt 8) dX4_init_75 (by decide) ?_
  refine CJ.ge_y X 95 dX4_init_77 (by decide) (by decide) ?_
  exact CJ.vret X hr hlocks dX4_init_95 (fun _ h => h) (fun H locs t hP hD hS ht hW => ⟨⟨fun k => [q1, q2, q3, q4, q5, q6].getD k 0, rfl, trivial, by rw [ht]; exact hP, va_K.moved hW.alike hK, hD⟩, hS.F ht⟩)
def tasC (ca : Nat → ClassId) (a1 : Nat) (q : Nat) (u : Nat → Nat) : va_W := [(q, .inr (5, [.ref a1, .ref (u 0), .int (Int32.ofInt 0), .int (Int32.ofInt 0), .ref (u 1), .ref (u 2), .ref (u 3), .ref (u 4), .ref (u 5)])), ((u 0), .inl (ca 0, 8, .inl fun _ => Int32.ofInt 0)), ((u 1), .inl (ca 0, 8, .inl fun _ => Int32.ofInt 0)), ((u 2), .inl (ca 0, 8, .inl fun _ => Int32.ofInt 0)), ((u 3), .inl (ca 0, 8, .inl fun _ => Int32.ofInt 0)), ((u 4), .inl (ca 0, 81, .inl fun _ => Int32.ofInt 0)), ((u 5), .inl (ca 0, 81, .inl fun _ => Int32.ofInt 0))]
def YX5_init : MR := (yX5_init, cX5_init, 2, none, 1, 12)
set_option maxHeartbeats 4000000 in
set_option maxRecDepth 100000 in
theorem c_X5_init {l : Launch} {D : va_G} {ca : Nat → ClassId} (a1 : Nat) : MC l D ca YX5_init 5 [.null, .null, .int (Int32.ofInt 0), .int (Int32.ofInt 0), .null, .null, .null, .null, .null] [.ref a1] 6 194 (fun _ => True : (Nat → Nat) → Prop) (tasC ca a1) := by
  intro q sz
  refine Met.ofW (cc := cX5_init) (maxL := 2) (ret := none) (by decide) rfl ?_
  intro p e s m args below meth c s₁ B hml hv
  obtain ⟨rfl, hsz, hP, hK, hD0, hNw, hAO⟩ := hv
  have hr := B.returns
  have hlocks := B.notSynchronized
  have hts0 := atoms_spec (ws := wsY YX5_init) B.pre
  have hin : meth.name = "<init>" := (name_of_methodNamed B.named B.method).1
  have hown : s.vm.findClass RX5 = some m.cls := findClass_of_methodNamed B.named
  subst hsz
  have hD := hD0.self (sz := s.heap.size)
  have hl := lv_entry ([.ref q, .ref a1]) (n := 2) (Nat.le_of_ble_eq_true rfl)
  rw [lg_entry_eq]
  generalize (lg_sl ([.ref q, .ref a1]) ++ List.replicate (2 - (lg_sl ([.ref q, .ref a1])).length) Slot.unset).toArray = ls at hl ⊢
  have hl : lv_has ls 2 [(0, .ref q), (1, .ref a1)] := hl
  generalize hAe : va_A [(q, .inr (5, [.null, .null, .int (Int32.ofInt 0), .int (Int32.ofInt 0), .null, .null, .null, .null, .null]))] s.heap.size = A at hD ⊢
  have X : CE D ca RX5 cX5_init 2 p s m _ c A := ⟨B.exec, B.bytes, hml, hown, fun w hw => hts0 w (List.mem_cons_of_mem _ hw), hK, fun z hz => by rw [← hAe]; exact Or.inr hz, hNw, hAO⟩
  refine (?_ : CJ p l e _ s m _ below meth c _ D A [(q, .inr (5, [.null, .null, .int (Int32.ofInt 0), .int (Int32.ofInt 0), .null, .null, .null, .null, .null]))] 0 0 0 ls []) s.heap [] hP hD va_S.rf
  refine CJ.aload X dX5_init_0 rfl (lv_at hl 0 rfl) ?_
  refine CJ.objInit X hl.1 cq57 cq39 cq40 dX5_init_1 (Nat.le_of_ble_eq_true rfl) (Nat.le_of_ble_eq_true rfl) ?_
  refine CJ.aload X dX5_init_4 rfl (lv_at hl 0 rfl) ?_
  refine CJ.bipush X (Int32.ofInt 8) dX5_init_5 (by decide) ?_
  refine CJ.arr (atype := .int) (ty := .int) X 0 rfl rfl (fun _ h => h) cq87 rfl 8 (by decide) (by decide) (Nat.le_of_ble_eq_true rfl) (Nat.le_of_ble_eq_true rfl) (Nat.le_of_ble_eq_true rfl) dX5_init_7 (fun q1 => ?_)
  refine CJ.putF X hin ck5 0 rfl 1 (by decide) cq59 rfl rfl rfl rfl (Nat.le_of_ble_eq_true rfl) dX5_init_9 [(q, .inr (5, [.null, .ref q1, .int (Int32.ofInt 0), .int (Int32.ofInt 0), .null, .null, .null, .null, .null])), (q1, .inl (ca 0, 8, .inl fun _ => Int32.ofInt 0))] rfl ?_
  refine CJ.aload X dX5_init_12 rfl (lv_at hl 0 rfl) ?_
  refine CJ.iconst X (Int32.ofInt 0) dX5_init_13 (by decide) ?_
  refine CJ.put X ck5 0 rfl 2 (by decide) cq60 rfl rfl rfl (Nat.le_of_ble_eq_true rfl) dX5_init_14 [(q, .inr (5, [.null, .ref q1, .int (Int32.ofInt 0), .int (Int32.ofInt 0), .null, .null, .null, .null, .null])), (q1, .inl (ca 0, 8, .inl fun _ => Int32.ofInt 0))] rfl ?_
  refine CJ.aload X dX5_init_17 rfl (lv_at hl 0 rfl) ?_
  refine CJ.iconst X (Int32.ofInt 0) dX5_init_18 (by decide) ?_
  refine CJ.put X ck5 0 rfl 3 (by decide) cq61 rfl rfl rfl (Nat.le_of_ble_eq_true rfl) dX5_init_19 [(q, .inr (5, [.null, .ref q1, .int (Int32.ofInt 0), .int (Int32.ofInt 0), .null, .null, .null, .null, .null])), (q1, .inl (ca 0, 8, .inl fun _ => Int32.ofInt 0))] rfl ?_
  refine CJ.aload X dX5_init_22 rfl (lv_at hl 0 rfl) ?_
  refine CJ.bipush X (Int32.ofInt 8) dX5_init_23 (by decide) ?_
  refine CJ.arr (atype := .int) (ty := .int) X 0 rfl rfl (fun _ h => h) cq87 rfl 8 (by decide) (by decide) (Nat.le_of_ble_eq_true rfl) (Nat.le_of_ble_eq_true rfl) (Nat.le_of_ble_eq_true rfl) dX5_init_25 (fun q2 => ?_)
  refine CJ.putF X hin ck5 0 rfl 4 (by decide) cq63 rfl rfl rfl rfl (Nat.le_of_ble_eq_true rfl) dX5_init_27 [(q, .inr (5, [.null, .ref q1, .int (Int32.ofInt 0), .int (Int32.ofInt 0), .ref q2, .null, .null, .null, .null])), (q1, .inl (ca 0, 8, .inl fun _ => Int32.ofInt 0)), (q2, .inl (ca 0, 8, .inl fun _ => Int32.ofInt 0))] rfl ?_
  refine CJ.aload X dX5_init_30 rfl (lv_at hl 0 rfl) ?_
  refine CJ.bipush X (Int32.ofInt 8) dX5_init_31 (by decide) ?_
  refine CJ.arr (atype := .int) (ty := .int) X 0 rfl rfl (fun _ h => h) cq87 rfl 8 (by decide) (by decide) (Nat.le_of_ble_eq_true rfl) (Nat.le_of_ble_eq_true rfl) (Nat.le_of_ble_eq_true rfl) dX5_init_33 (fun q3 => ?_)
  refine CJ.putF X hin ck5 0 rfl 5 (by decide) cq64 rfl rfl rfl rfl (Nat.le_of_ble_eq_true rfl) dX5_init_35 [(q, .inr (5, [.null, .ref q1, .int (Int32.ofInt 0), .int (Int32.ofInt 0), .ref q2, .ref q3, .null, .null, .null])), (q1, .inl (ca 0, 8, .inl fun _ => Int32.ofInt 0)), (q2, .inl (ca 0, 8, .inl fun _ => Int32.ofInt 0)), (q3, .inl (ca 0, 8, .inl fun _ => Int32.ofInt 0))] rfl ?_
  refine CJ.aload X dX5_init_38 rfl (lv_at hl 0 rfl) ?_
  refine CJ.bipush X (Int32.ofInt 8) dX5_init_39 (by decide) ?_
  refine CJ.arr (atype := .int) (ty := .int) X 0 rfl rfl (fun _ h => h) cq87 rfl 8 (by decide) (by decide) (Nat.le_of_ble_eq_true rfl) (Nat.le_of_ble_eq_true rfl) (Nat.le_of_ble_eq_true rfl) dX5_init_41 (fun q4 => ?_)
  refine CJ.putF X hin ck5 0 rfl 6 (by decide) cq65 rfl rfl rfl rfl (Nat.le_of_ble_eq_true rfl) dX5_init_43 [(q, .inr (5, [.null, .ref q1, .int (Int32.ofInt 0), .int (Int32.ofInt 0), .ref q2, .ref q3, .ref q4, .null, .null])), (q1, .inl (ca 0, 8, .inl fun _ => Int32.ofInt 0)), (q2, .inl (ca 0, 8, .inl fun _ => Int32.ofInt 0)), (q3, .inl (ca 0, 8, .inl fun _ => Int32.ofInt 0)), (q4, .inl (ca 0, 8, .inl fun _ => Int32.ofInt 0))] rfl ?_
  refine CJ.aload X dX5_init_46 rfl (lv_at hl 0 rfl) ?_
  refine CJ.bipush X (Int32.ofInt 81) dX5_init_47 (by decide) ?_
  refine CJ.arr (atype := .int) (ty := .int) X 0 rfl rfl (fun _ h => h) cq87 rfl 81 (by decide) (by decide) (Nat.le_of_ble_eq_true rfl) (Nat.le_of_ble_eq_true rfl) (Nat.le_of_ble_eq_true rfl) dX5_init_49 (fun q5 => ?_)
  refine CJ.putF X hin ck5 0 rfl 7 (by decide) cq66 rfl rfl rfl rfl (Nat.le_of_ble_eq_true rfl) dX5_init_51 [(q, .inr (5, [.null, .ref q1, .int (Int32.ofInt 0), .int (Int32.ofInt 0), .ref q2, .ref q3, .ref q4, .ref q5, .null])), (q1, .inl (ca 0, 8, .inl fun _ => Int32.ofInt 0)), (q2, .inl (ca 0, 8, .inl fun _ => Int32.ofInt 0)), (q3, .inl (ca 0, 8, .inl fun _ => Int32.ofInt 0)), (q4, .inl (ca 0, 8, .inl fun _ => Int32.ofInt 0)), (q5, .inl (ca 0, 81, .inl fun _ => Int32.ofInt 0))] rfl ?_
  refine CJ.aload X dX5_init_54 rfl (lv_at hl 0 rfl) ?_
  refine CJ.bipush X (Int32.ofInt 81) dX5_init_55 (by decide) ?_
  refine CJ.arr (atype := .int) (ty := .int) X 0 rfl rfl (fun _ h => h) cq87 rfl 81 (by decide) (by decide) (Nat.le_of_ble_eq_true rfl) (Nat.le_of_ble_eq_true rfl) (Nat.le_of_ble_eq_true rfl) dX5_init_57 (fun q6 => ?_)
  refine CJ.putF X hin ck5 0 rfl 8 (by decide) cq67 rfl rfl rfl rfl (Nat.le_of_ble_eq_true rfl) dX5_init_59 [(q, .inr (5, [.null, .ref q1, .int (Int32.ofInt 0), .int (Int32.ofInt 0), .ref q2, .ref q3, .ref q4, .ref q5, .ref q6])), (q1, .inl (ca 0, 8, .inl fun _ => Int32.ofInt 0)), (q2, .inl (ca 0, 8, .inl fun _ => Int32.ofInt 0)), (q3, .inl (ca 0, 8, .inl fun _ => Int32.ofInt 0)), (q4, .inl (ca 0, 8, .inl fun _ => Int32.ofInt 0)), (q5, .inl (ca 0, 81, .inl fun _ => Int32.ofInt 0)), (q6, .inl (ca 0, 81, .inl fun _ => Int32.ofInt 0))] rfl ?_
  refine CJ.aload X dX5_init_62 rfl (lv_at hl 0 rfl) ?_
  refine CJ.aload X dX5_init_63 rfl (lv_at hl 1 rfl) ?_
  refine CJ.putF X hin ck5 0 rfl 0 (by decide) cq58 rfl rfl rfl rfl (Nat.le_of_ble_eq_true rfl) dX5_init_64 [(q, .inr (5, [.ref a1, .ref q1, .int (Int32.ofInt 0), .int (Int32.ofInt 0), .ref q2, .ref q3, .ref q4, .ref q5, .ref q6])), (q1, .inl (ca 0, 8, .inl fun _ => Int32.ofInt 0)), (q2, .inl (ca 0, 8, .inl fun _ => Int32.ofInt 0)), (q3, .inl (ca 0, 8, .inl fun _ => Int32.ofInt 0)), (q4, .inl (ca 0, 8, .inl fun _ => Int32.ofInt 0)), (q5, .inl (ca 0, 81, .inl fun _ => Int32.ofInt 0)), (q6, .inl (ca 0, 81, .inl fun _ => Int32.ofInt 0))] rfl ?_
  exact CJ.vret X hr hlocks dX5_init_67 (fun _ h => h) (fun H locs t hP hD hS ht hW => ⟨⟨fun k => [q1, q2, q3, q4, q5, q6].getD k 0, rfl, trivial, by rw [ht]; exact hP, va_K.moved hW.alike hK, hD⟩, hS.F ht⟩)
def actC (ca : Nat → ClassId) (a1 : Nat) (a2 : Nat) (a3 : Nat) (q : Nat) (u : Nat → Nat) : va_W := [(q, .inr (0, [.ref a1, .ref a2, .ref a3, .ref (u 0)])), ((u 0), .inl (ca 0, 8, .inl fun _ => Int32.ofInt 0))]
def YX0_init : MR := (yX0_init, cX0_init, 4, none, 1, 12)
set_option maxHeartbeats 4000000 in
set_option maxRecDepth 100000 in
theorem c_X0_init {l : Launch} {D : va_G} {ca : Nat → ClassId} (a1 : Nat) (a2 : Nat) (a3 : Nat) : MC l D ca YX0_init 0 [.null, .null, .null, .null] [.ref a1, .ref a2, .ref a3] 1 8 (fun _ => True : (Nat → Nat) → Prop) (actC ca a1 a2 a3) := by
  intro q sz
  refine Met.ofW (cc := cX0_init) (maxL := 4) (ret := none) (by decide) rfl ?_
  intro p e s m args below meth c s₁ B hml hv
  obtain ⟨rfl, hsz, hP, hK, hD0, hNw, hAO⟩ := hv
  have hr := B.returns
  have hlocks := B.notSynchronized
  have hts0 := atoms_spec (ws := wsY YX0_init) B.pre
  have hin : meth.name = "<init>" := (name_of_methodNamed B.named B.method).1
  have hown : s.vm.findClass RX0 = some m.cls := findClass_of_methodNamed B.named
  subst hsz
  have hD := hD0.self (sz := s.heap.size)
  have hl := lv_entry ([.ref q, .ref a1, .ref a2, .ref a3]) (n := 4) (Nat.le_of_ble_eq_true rfl)
  rw [lg_entry_eq]
  generalize (lg_sl ([.ref q, .ref a1, .ref a2, .ref a3]) ++ List.replicate (4 - (lg_sl ([.ref q, .ref a1, .ref a2, .ref a3])).length) Slot.unset).toArray = ls at hl ⊢
  have hl : lv_has ls 4 [(0, .ref q), (1, .ref a1), (2, .ref a2), (3, .ref a3)] := hl
  generalize hAe : va_A [(q, .inr (0, [.null, .null, .null, .null]))] s.heap.size = A at hD ⊢
  have X : CE D ca RX0 cX0_init 4 p s m _ c A := ⟨B.exec, B.bytes, hml, hown, fun w hw => hts0 w (List.mem_cons_of_mem _ hw), hK, fun z hz => by rw [← hAe]; exact Or.inr hz, hNw, hAO⟩
  refine (?_ : CJ p l e _ s m _ below meth c _ D A [(q, .inr (0, [.null, .null, .null, .null]))] 0 0 0 ls []) s.heap [] hP hD va_S.rf
  refine CJ.aload X dX0_init_0 rfl (lv_at hl 0 rfl) ?_
  refine CJ.objInit X hl.1 cq172 cq39 cq40 dX0_init_1 (Nat.le_of_ble_eq_true rfl) (Nat.le_of_ble_eq_true rfl) ?_
  refine CJ.aload X dX0_init_4 rfl (lv_at hl 0 rfl) ?_
  refine CJ.bipush X (Int32.ofInt 8) dX0_init_5 (by decide) ?_
  refine CJ.arr (atype := .int) (ty := .int) X 0 rfl rfl (fun _ h => h) cq87 rfl 8 (by decide) (by decide) (Nat.le_of_ble_eq_true rfl) (Nat.le_of_ble_eq_true rfl) (Nat.le_of_ble_eq_true rfl) dX0_init_7 (fun q1 => ?_)
  refine CJ.putF X hin ck0 0 rfl 3 (by decide) cq176 rfl rfl rfl rfl (Nat.le_of_ble_eq_true rfl) dX0_init_9 [(q, .inr (0, [.null, .null, .null, .ref q1])), (q1, .inl (ca 0, 8, .inl fun _ => Int32.ofInt 0))] rfl ?_
  refine CJ.aload X dX0_init_12 rfl (lv_at hl 0 rfl) ?_
  refine CJ.aload X dX0_init_13 rfl (lv_at hl 1 rfl) ?_
  refine CJ.putF X hin ck0 0 rfl 0 (by decide) cq173 rfl rfl rfl rfl (Nat.le_of_ble_eq_true rfl) dX0_init_14 [(q, .inr (0, [.ref a1, .null, .null, .ref q1])), (q1, .inl (ca 0, 8, .inl fun _ => Int32.ofInt 0))] rfl ?_
  refine CJ.aload X dX0_init_17 rfl (lv_at hl 0 rfl) ?_
  refine CJ.aload X dX0_init_18 rfl (lv_at hl 2 rfl) ?_
  refine CJ.putF X hin ck0 0 rfl 1 (by decide) cq174 rfl rfl rfl rfl (Nat.le_of_ble_eq_true rfl) dX0_init_19 [(q, .inr (0, [.ref a1, .ref a2, .null, .ref q1])), (q1, .inl (ca 0, 8, .inl fun _ => Int32.ofInt 0))] rfl ?_
  refine CJ.aload X dX0_init_22 rfl (lv_at hl 0 rfl) ?_
  refine CJ.aload X dX0_init_23 rfl (lv_at hl 3 rfl) ?_
  refine CJ.putF X hin ck0 0 rfl 2 (by decide) cq175 rfl rfl rfl rfl (Nat.le_of_ble_eq_true rfl) dX0_init_24 [(q, .inr (0, [.ref a1, .ref a2, .ref a3, .ref q1])), (q1, .inl (ca 0, 8, .inl fun _ => Int32.ofInt 0))] rfl ?_
  exact CJ.vret X hr hlocks dX0_init_27 (fun _ h => h) (fun H locs t hP hD hS ht hW => ⟨⟨fun k => [q1].getD k 0, rfl, trivial, by rw [ht]; exact hP, va_K.moved hW.alike hK, hD⟩, hS.F ht⟩)
def texC (ca : Nat → ClassId) (q : Nat) (u : Nat → Nat) : va_W := [(q, .inr (6, [.ref (u 0), .int (Int32.ofInt 0), .int (Int32.ofInt 0), .int (Int32.ofInt (-1)), .ref (u 1), .int (Int32.ofInt 0), .int (Int32.ofInt 0)])), ((u 0), .inl (ca 3, 60, .inl fun _ => Int32.ofInt 0)), ((u 1), .inl (ca 0, 8, .inl fun _ => Int32.ofInt 0))]
def YX6_init : MR := (yX6_init, cX6_init, 1, none, 1, 12)
set_option maxHeartbeats 4000000 in
set_option maxRecDepth 100000 in
theorem c_X6_init {l : Launch} {D : va_G} {ca : Nat → ClassId} : MC l D ca YX6_init 6 [.null, .int (Int32.ofInt 0), .int (Int32.ofInt 0), .int (Int32.ofInt 0), .null, .int (Int32.ofInt 0), .int (Int32.ofInt 0)] [] 2 68 (fun _ => True : (Nat → Nat) → Prop) (texC ca) := by
  intro q sz
  refine Met.ofW (cc := cX6_init) (maxL := 1) (ret := none) (by decide) rfl ?_
  intro p e s m args below meth c s₁ B hml hv
  obtain ⟨rfl, hsz, hP, hK, hD0, hNw, hAO⟩ := hv
  have hr := B.returns
  have hlocks := B.notSynchronized
  have hts0 := atoms_spec (ws := wsY YX6_init) B.pre
  have hin : meth.name = "<init>" := (name_of_methodNamed B.named B.method).1
  have hown : s.vm.findClass RX6 = some m.cls := findClass_of_methodNamed B.named
  subst hsz
  have hD := hD0.self (sz := s.heap.size)
  have hl := lv_entry ([.ref q]) (n := 1) (Nat.le_of_ble_eq_true rfl)
  rw [lg_entry_eq]
  generalize (lg_sl ([.ref q]) ++ List.replicate (1 - (lg_sl ([.ref q])).length) Slot.unset).toArray = ls at hl ⊢
  have hl : lv_has ls 1 [(0, .ref q)] := hl
  generalize hAe : va_A [(q, .inr (6, [.null, .int (Int32.ofInt 0), .int (Int32.ofInt 0), .int (Int32.ofInt 0), .null, .int (Int32.ofInt 0), .int (Int32.ofInt 0)]))] s.heap.size = A at hD ⊢
  have X : CE D ca RX6 cX6_init 1 p s m _ c A := ⟨B.exec, B.bytes, hml, hown, fun w hw => hts0 w (List.mem_cons_of_mem _ hw), hK, fun z hz => by rw [← hAe]; exact Or.inr hz, hNw, hAO⟩
  refine (?_ : CJ p l e _ s m _ below meth c _ D A [(q, .inr (6, [.null, .int (Int32.ofInt 0), .int (Int32.ofInt 0), .int (Int32.ofInt 0), .null, .int (Int32.ofInt 0), .int (Int32.ofInt 0)]))] 0 0 0 ls []) s.heap [] hP hD va_S.rf
  refine CJ.aload X dX6_init_0 rfl (lv_at hl 0 rfl) ?_
  refine CJ.objInit X hl.1 cq191 cq39 cq40 dX6_init_1 (Nat.le_of_ble_eq_true rfl) (Nat.le_of_ble_eq_true rfl) ?_
  refine CJ.aload X dX6_init_4 rfl (lv_at hl 0 rfl) ?_
  refine CJ.bipush X (Int32.ofInt 60) dX6_init_5 (by decide) ?_
  refine CJ.arr (atype := .char) (ty := .char) X 3 rfl rfl (fun _ h => h) cq215 rfl 60 (by decide) (by decide) (Nat.le_of_ble_eq_true rfl) (Nat.le_of_ble_eq_true rfl) (Nat.le_of_ble_eq_true rfl) dX6_init_7 (fun q1 => ?_)
  refine CJ.putF X hin ck6 0 rfl 0 (by decide) cq192 rfl rfl rfl rfl (Nat.le_of_ble_eq_true rfl) dX6_init_9 [(q, .inr (6, [.ref q1, .int (Int32.ofInt 0), .int (Int32.ofInt 0), .int (Int32.ofInt 0), .null, .int (Int32.ofInt 0), .int (Int32.ofInt 0)])), (q1, .inl (ca 3, 60, .inl fun _ => Int32.ofInt 0))] rfl ?_
  refine CJ.aload X dX6_init_12 rfl (lv_at hl 0 rfl) ?_
  refine CJ.iconst X (Int32.ofInt 0) dX6_init_13 (by decide) ?_
  refine CJ.put X ck6 0 rfl 1 (by decide) cq193 rfl rfl rfl (Nat.le_of_ble_eq_true rfl) dX6_init_14 [(q, .inr (6, [.ref q1, .int (Int32.ofInt 0), .int (Int32.ofInt 0), .int (Int32.ofInt 0), .null, .int (Int32.ofInt 0), .int (Int32.ofInt 0)])), (q1, .inl (ca 3, 60, .inl fun _ => Int32.ofInt 0))] rfl ?_
  refine CJ.aload X dX6_init_17 rfl (lv_at hl 0 rfl) ?_
  refine CJ.iconst X (Int32.ofInt 0) dX6_init_18 (by decide) ?_
  refine CJ.put X ck6 0 rfl 2 (by decide) cq195 rfl rfl rfl (Nat.le_of_ble_eq_true rfl) dX6_init_19 [(q, .inr (6, [.ref q1, .int (Int32.ofInt 0), .int (Int32.ofInt 0), .int (Int32.ofInt 0), .null, .int (Int32.ofInt 0), .int (Int32.ofInt 0)])), (q1, .inl (ca 3, 60, .inl fun _ => Int32.ofInt 0))] rfl ?_
  refine CJ.aload X dX6_init_22 rfl (lv_at hl 0 rfl) ?_
  refine CJ.iconst X (Int32.ofInt (-1)) dX6_init_23 (by decide) ?_
  refine CJ.put X ck6 0 rfl 3 (by decide) cq196 rfl rfl rfl (Nat.le_of_ble_eq_true rfl) dX6_init_24 [(q, .inr (6, [.ref q1, .int (Int32.ofInt 0), .int (Int32.ofInt 0), .int (Int32.ofInt (-1)), .null, .int (Int32.ofInt 0), .int (Int32.ofInt 0)])), (q1, .inl (ca 3, 60, .inl fun _ => Int32.ofInt 0))] rfl ?_
  refine CJ.aload X dX6_init_27 rfl (lv_at hl 0 rfl) ?_
  refine CJ.bipush X (Int32.ofInt 8) dX6_init_28 (by decide) ?_
  refine CJ.arr (atype := .int) (ty := .int) X 0 rfl rfl (fun _ h => h) cq87 rfl 8 (by decide) (by decide) (Nat.le_of_ble_eq_true rfl) (Nat.le_of_ble_eq_true rfl) (Nat.le_of_ble_eq_true rfl) dX6_init_30 (fun q2 => ?_)
  refine CJ.putF X hin ck6 0 rfl 4 (by decide) cq197 rfl rfl rfl rfl (Nat.le_of_ble_eq_true rfl) dX6_init_32 [(q, .inr (6, [.ref q1, .int (Int32.ofInt 0), .int (Int32.ofInt 0), .int (Int32.ofInt (-1)), .ref q2, .int (Int32.ofInt 0), .int (Int32.ofInt 0)])), (q1, .inl (ca 3, 60, .inl fun _ => Int32.ofInt 0)), (q2, .inl (ca 0, 8, .inl fun _ => Int32.ofInt 0))] rfl ?_
  refine CJ.aload X dX6_init_35 rfl (lv_at hl 0 rfl) ?_
  refine CJ.iconst X (Int32.ofInt 0) dX6_init_36 (by decide) ?_
  refine CJ.put X ck6 0 rfl 5 (by decide) cq198 rfl rfl rfl (Nat.le_of_ble_eq_true rfl) dX6_init_37 [(q, .inr (6, [.ref q1, .int (Int32.ofInt 0), .int (Int32.ofInt 0), .int (Int32.ofInt (-1)), .ref q2, .int (Int32.ofInt 0), .int (Int32.ofInt 0)])), (q1, .inl (ca 3, 60, .inl fun _ => Int32.ofInt 0)), (q2, .inl (ca 0, 8, .inl fun _ => Int32.ofInt 0))] rfl ?_
  refine CJ.aload X dX6_init_40 rfl (lv_at hl 0 rfl) ?_
  refine CJ.iconst X (Int32.ofInt 0) dX6_init_41 (by decide) ?_
  refine CJ.put X ck6 0 rfl 6 (by decide) cq199 rfl rfl rfl (Nat.le_of_ble_eq_true rfl) dX6_init_42 [(q, .inr (6, [.ref q1, .int (Int32.ofInt 0), .int (Int32.ofInt 0), .int (Int32.ofInt (-1)), .ref q2, .int (Int32.ofInt 0), .int (Int32.ofInt 0)])), (q1, .inl (ca 3, 60, .inl fun _ => Int32.ofInt 0)), (q2, .inl (ca 0, 8, .inl fun _ => Int32.ofInt 0))] rfl ?_
  exact CJ.vret X hr hlocks dX6_init_45 (fun _ h => h) (fun H locs t hP hD hS ht hW => ⟨⟨fun k => [q1, q2].getD k 0, rfl, trivial, by rw [ht]; exact hP, va_K.moved hW.alike hK, hD⟩, hS.F ht⟩)
def choC (ca : Nat → ClassId) (a1 : Nat) (q : Nat) (u : Nat → Nat) : va_W := [(q, .inr (1, [.ref a1, .ref (u 0), .int (Int32.ofInt 1), .ref (u 1)])), ((u 0), .inl (ca 2, 4096, .inl fun _ => Int32.ofInt 0)), ((u 1), .inl (ca 0, 206, .inl fun _ => Int32.ofInt 0))]
def YX1_init : MR := (yX1_init, cX1_init, 2, none, 1, 12)
set_option maxHeartbeats 4000000 in
set_option maxRecDepth 100000 in
theorem c_X1_init {l : Launch} {D : va_G} {ca : Nat → ClassId} (a1 : Nat) : MC l D ca YX1_init 1 [.null, .null, .int (Int32.ofInt 0), .null] [.ref a1] 2 4302 (fun _ => True : (Nat → Nat) → Prop) (choC ca a1) := by
  intro q sz
  refine Met.ofW (cc := cX1_init) (maxL := 2) (ret := none) (by decide) rfl ?_
  intro p e s m args below meth c s₁ B hml hv
  obtain ⟨rfl, hsz, hP, hK, hD0, hNw, hAO⟩ := hv
  have hr := B.returns
  have hlocks := B.notSynchronized
  have hts0 := atoms_spec (ws := wsY YX1_init) B.pre
  have hin : meth.name = "<init>" := (name_of_methodNamed B.named B.method).1
  have hown : s.vm.findClass RX1 = some m.cls := findClass_of_methodNamed B.named
  subst hsz
  have hD := hD0.self (sz := s.heap.size)
  have hl := lv_entry ([.ref q, .ref a1]) (n := 2) (Nat.le_of_ble_eq_true rfl)
  rw [lg_entry_eq]
  generalize (lg_sl ([.ref q, .ref a1]) ++ List.replicate (2 - (lg_sl ([.ref q, .ref a1])).length) Slot.unset).toArray = ls at hl ⊢
  have hl : lv_has ls 2 [(0, .ref q), (1, .ref a1)] := hl
  generalize hAe : va_A [(q, .inr (1, [.null, .null, .int (Int32.ofInt 0), .null]))] s.heap.size = A at hD ⊢
  have X : CE D ca RX1 cX1_init 2 p s m _ c A := ⟨B.exec, B.bytes, hml, hown, fun w hw => hts0 w (List.mem_cons_of_mem _ hw), hK, fun z hz => by rw [← hAe]; exact Or.inr hz, hNw, hAO⟩
  refine (?_ : CJ p l e _ s m _ below meth c _ D A [(q, .inr (1, [.null, .null, .int (Int32.ofInt 0), .null]))] 0 0 0 ls []) s.heap [] hP hD va_S.rf
  refine CJ.aload X dX1_init_0 rfl (lv_at hl 0 rfl) ?_
  refine CJ.objInit X hl.1 cq221 cq39 cq40 dX1_init_1 (Nat.le_of_ble_eq_true rfl) (Nat.le_of_ble_eq_true rfl) ?_
  refine CJ.aload X dX1_init_4 rfl (lv_at hl 0 rfl) ?_
  refine CJ.sipush X (Int32.ofInt 4096) dX1_init_5 (by decide) ?_
  refine CJ.arr (atype := .short) (ty := .short) X 2 rfl rfl (fun _ h => h) cq235 rfl 4096 (by decide) (by decide) (Nat.le_of_ble_eq_true rfl) (Nat.le_of_ble_eq_true rfl) (Nat.le_of_ble_eq_true rfl) dX1_init_8 (fun q1 => ?_)
  refine CJ.putF X hin ck1 0 rfl 1 (by decide) cq223 rfl rfl rfl rfl (Nat.le_of_ble_eq_true rfl) dX1_init_10 [(q, .inr (1, [.null, .ref q1, .int (Int32.ofInt 0), .null])), (q1, .inl (ca 2, 4096, .inl fun _ => Int32.ofInt 0))] rfl ?_
  refine CJ.aload X dX1_init_13 rfl (lv_at hl 0 rfl) ?_
  refine CJ.iconst X (Int32.ofInt 1) dX1_init_14 (by decide) ?_
  refine CJ.put X ck1 0 rfl 2 (by decide) cq224 rfl rfl rfl (Nat.le_of_ble_eq_true rfl) dX1_init_15 [(q, .inr (1, [.null, .ref q1, .int (Int32.ofInt 1), .null])), (q1, .inl (ca 2, 4096, .inl fun _ => Int32.ofInt 0))] rfl ?_
  refine CJ.aload X dX1_init_18 rfl (lv_at hl 0 rfl) ?_
  refine CJ.sipush X (Int32.ofInt 206) dX1_init_19 (by decide) ?_
  refine CJ.arr (atype := .int) (ty := .int) X 0 rfl rfl (fun _ h => h) cq87 rfl 206 (by decide) (by decide) (Nat.le_of_ble_eq_true rfl) (Nat.le_of_ble_eq_true rfl) (Nat.le_of_ble_eq_true rfl) dX1_init_22 (fun q2 => ?_)
  refine CJ.putF X hin ck1 0 rfl 3 (by decide) cq225 rfl rfl rfl rfl (Nat.le_of_ble_eq_true rfl) dX1_init_24 [(q, .inr (1, [.null, .ref q1, .int (Int32.ofInt 1), .ref q2])), (q1, .inl (ca 2, 4096, .inl fun _ => Int32.ofInt 0)), (q2, .inl (ca 0, 206, .inl fun _ => Int32.ofInt 0))] rfl ?_
  refine CJ.aload X dX1_init_27 rfl (lv_at hl 0 rfl) ?_
  refine CJ.aload X dX1_init_28 rfl (lv_at hl 1 rfl) ?_
  refine CJ.putF X hin ck1 0 rfl 0 (by decide) cq222 rfl rfl rfl rfl (Nat.le_of_ble_eq_true rfl) dX1_init_29 [(q, .inr (1, [.ref a1, .ref q1, .int (Int32.ofInt 1), .ref q2])), (q1, .inl (ca 2, 4096, .inl fun _ => Int32.ofInt 0)), (q2, .inl (ca 0, 206, .inl fun _ => Int32.ofInt 0))] rfl ?_
  exact CJ.vret X hr hlocks dX1_init_32 (fun _ h => h) (fun H locs t hP hD hS ht hW => ⟨⟨fun k => [q1, q2].getD k 0, rfl, trivial, by rw [ht]; exact hP, va_K.moved hW.alike hK, hD⟩, hS.F ht⟩)
