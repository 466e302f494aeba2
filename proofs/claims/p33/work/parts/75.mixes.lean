/-! the constructor of Mixes: its table of sums -/
theorem cq46 : Cond.methodLink RX3 3 Lib.objectInit ∈ WS := mw 46 (by decide +kernel) rfl
theorem cq47 : Cond.fieldLink RX3 9 "SpiceThrees$Mixes" "sums" "[B" ∈ WS := mw 47 (by decide +kernel) rfl
theorem cq51 : Cond.arrayClass .byte ∈ WS := mw 51 (by decide +kernel) rfl
theorem n8_id {x : Int} (h : -128 ≤ x ∧ x < 128) : n8 x = x := by
  rw [n8_def, Int8.toInt_toInt32, Int32.toInt_toInt8, oi_to, w32_id (by unfold inR; omega)]
  unfold Int.bmod
  dsimp only
  split <;> omega
/-- the table of sums of halves -/
def JG (g : Nat → Int) : Prop := (∀ k, inR (g k)) ∧ ∀ a b : Int, 0 ≤ a → a < 81 → 0 ≤ b → b < 81 → g (a * 81 + b).toNat = madd 4 a b
def mixC (ca : Nat → ClassId) (q : Nat) (u : Nat × (Nat → Int)) : va_W := [(q, .inr (3, [.ref u.1])), (u.1, .inl (ca 1, 6561, .inl fun k => Int32.ofInt (u.2 k)))]
/-- what stands of it before the place (i, j) -/
def JH (g : Nat → Int) (i j : Int) : Prop := (∀ k, inR (g k)) ∧ g 0 = 0 ∧ ∀ a b : Int, 0 ≤ a → a < 81 → 0 ≤ b → b < 81 → (a < i ∨ (a = i ∧ b < j)) → g (a * 81 + b).toNat = madd 4 a b
theorem madd4_low {a b : Int} (ha : 0 ≤ a) (ha2 : a < 27) (hb : 0 ≤ b) (hb2 : b < 27) : madd 4 a b = madd 3 a b := by
  have e1 : a / 3 / 3 / 3 = 0 := by omega
  have e2 : b / 3 / 3 / 3 = 0 := by omega
  simp only [madd, e1, e2]
  omega
theorem madd4_step (i j : Int) (h1 : 0 ≤ i ∧ i < 81) (h2 : 0 ≤ j ∧ j < 81) : madd 4 (i / 3) (j / 3) * 3 + (i + j) % 3 = madd 4 i j := by
  rw [madd4_low (a := i / 3) (b := j / 3) (by omega) (by omega) (by omega) (by omega)]
  have : madd 4 i j = (i % 3 + j % 3) % 3 + 3 * madd 3 (i / 3) (j / 3) := rfl
  omega
def upz (g : Nat → Int) (k : Nat) (v : Int) : Nat → Int := fun j => if j = k then v else g j
theorem JH_step {g : Nat → Int} {i j : Int} (h1 : 0 ≤ i ∧ i < 81) (h2 : 0 ≤ j ∧ j < 81) (h : JH g i j) : g (i / 3 * 81 + j / 3).toNat = madd 4 (i / 3) (j / 3) ∧ JH (upz g (i * 81 + j).toNat (madd 4 i j)) i (j + 1) := by
  obtain ⟨r, z, t⟩ := h
  have hb := madd4_b i j
  refine ⟨?_, fun k => ?_, ?_, fun a b ha ha2 hb1 hb2 hl => ?_⟩
  · by_cases c : i = 0 ∧ j = 0
    · obtain ⟨rfl, rfl⟩ := c
      exact z
    · exact t _ _ (by omega) (by omega) (by omega) (by omega) (by omega)
  · unfold upz
    split
    · unfold inR; omega
    · exact r k
  · unfold upz
    by_cases c : 0 = (i * 81 + j).toNat
    · rw [if_pos c]
      have hi : i = 0 := by omega
      have hj : j = 0 := by omega
      subst hi; subst hj
      rfl
    · rw [if_neg c]; exact z
  · unfold upz
    by_cases c : (a * 81 + b).toNat = (i * 81 + j).toNat
    · have e1 : a = i := by omega
      have e2 : b = j := by omega
      subst e1; subst e2
      rw [if_pos rfl]
    · rw [if_neg c]
      exact t a b ha ha2 hb1 hb2 (by
        by_cases e : a = i
        · subst e
          right
          refine ⟨rfl, ?_⟩
          by_cases e2 : b = j
          · subst e2; exact absurd rfl c
          · omega
        · left; omega)
section CTM
variable {p : Program} {l : Launch} {e : Env} {R : Room} {s : State} {m : MethodId} {args : Array Value} {below : List Frame} {meth : Method} {c : Code} {Q : State → Prop} {cc : ByteArray} {own : String} {n : Nat} {D : va_G} {ca : Nat → ClassId} {A : Nat → Prop} {ws : va_W} {cells slots pc : Nat} {ls : Array Slot} {st : List Value}
theorem CJ.idiv (X : CE D ca own cc n p s m args c A) {x y : Int} (v : Int) (d : decode cc pc = .ok (.idiv, 1)) (hx : inR x) (hy : inR y) (h0 : y ≠ 0) (hv : w32 (x.tdiv y) = v) (kk : CJ p l e R s m args below meth c Q D A ws cells slots (pc + 1) ls (.int (Int32.ofInt v) :: st)) : CJ p l e R s m args below meth c Q D A ws cells slots pc ls (.int (Int32.ofInt y) :: .int (Int32.ofInt x) :: st) :=
  fun H locs hP hD hS => lv_idiv X.1 X.2.1 d (oi_ne0 hy h0) (by rw [oi_div hx hy, hv]; exact kk H locs hP hD hS)
theorem CJ.irem (X : CE D ca own cc n p s m args c A) {x y : Int} (v : Int) (d : decode cc pc = .ok (.irem, 1)) (hx : inR x) (hy : inR y) (h0 : y ≠ 0) (hv : x.tmod y = v) (kk : CJ p l e R s m args below meth c Q D A ws cells slots (pc + 1) ls (.int (Int32.ofInt v) :: st)) : CJ p l e R s m args below meth c Q D A ws cells slots pc ls (.int (Int32.ofInt y) :: .int (Int32.ofInt x) :: st) :=
  fun H locs hP hD hS => lv_irem X.1 X.2.1 d (oi_ne0 hy h0) (by rw [oi_rem hx hy, hv]; exact kk H locs hP hD hS)
theorem CJ.imul (X : CE D ca own cc n p s m args c A) {x y : Int} (v : Int) (d : decode cc pc = .ok (.imul, 1)) (hv : x * y = v) (kk : CJ p l e R s m args below meth c Q D A ws cells slots (pc + 1) ls (.int (Int32.ofInt v) :: st)) : CJ p l e R s m args below meth c Q D A ws cells slots pc ls (.int (Int32.ofInt y) :: .int (Int32.ofInt x) :: st) :=
  fun H locs hP hD hS => lv_imul X.1 X.2.1 d (by rw [← Int32.ofInt_mul, hv]; exact kk H locs hP hD hS)
theorem CJ.iad (X : CE D ca own cc n p s m args c A) {x y : Int} (v : Int) (d : decode cc pc = .ok (.iadd, 1)) (hv : x + y = v) (kk : CJ p l e R s m args below meth c Q D A ws cells slots (pc + 1) ls (.int (Int32.ofInt v) :: st)) : CJ p l e R s m args below meth c Q D A ws cells slots pc ls (.int (Int32.ofInt y) :: .int (Int32.ofInt x) :: st) :=
  fun H locs hP hD hS => lv_iadd X.1 X.2.1 d (by rw [← Int32.ofInt_add, hv]; exact kk H locs hP hD hS)
theorem CJ.i2b (X : CE D ca own cc n p s m args c A) {x : Int} (d : decode cc pc = .ok (.i2b, 1)) (h : -128 ≤ x ∧ x < 128) (kk : CJ p l e R s m args below meth c Q D A ws cells slots (pc + 1) ls (.int (Int32.ofInt x) :: st)) : CJ p l e R s m args below meth c Q D A ws cells slots pc ls (.int (Int32.ofInt x) :: st) :=
  fun H locs hP hD hS => lv_i2b X.1 X.2.1 d (v := Int32.ofInt x) (by conv => rhs; rw [← n8_id h, n8_def, Int32.ofInt_toInt]) (kk H locs hP hD hS)
theorem CJ.bald (X : CE D ca own cc n p s m args c A) {a N : Nat} {f : Nat → Int} {i : Int} (v : Int) (q0 : Nat) (he : ws[q0]? = some (a, .inl (ca 1, N, .inl fun k => Int32.ofInt (f k)))) (hi : 0 ≤ i ∧ i < N) (hr : inR i) (hv : f i.toNat = v) (d : decode cc pc = .ok (.baload, 1)) (kk : CJ p l e R s m args below meth c Q D A ws cells slots (pc + 1) ls (.int (Int32.ofInt v) :: st)) : CJ p l e R s m args below meth c Q D A ws cells slots pc ls (.int (Int32.ofInt i) :: .ref a :: st) :=
  fun H locs hP hD hS => va_bald (tys := tysC ca) X.1 X.2.1 X.2.2.2.2.2.1 hP q0 1 he rfl (vin_of hr hi.1 hi.2) d (by rw [oi_clamp hr, hv]; exact kk H locs hP hD hS)
theorem CJ.bast (X : CE D ca own cc n p s m args c A) {a N : Nat} {f : Nat → Int} {i x : Int} (q0 : Nat) (he : ws[q0]? = some (a, .inl (ca 1, N, .inl fun k => Int32.ofInt (f k)))) (hi : 0 ≤ i ∧ i < N) (hr : inR i) (hx : -128 ≤ x ∧ x < 128) (d : decode cc pc = .ok (.bastore, 1)) (ws' : va_W) (hws : ws.set q0 (a, .inl (ca 1, N, .inl fun k => Int32.ofInt (upz f i.toNat x k))) = ws') (kk : CJ p l e R s m args below meth c Q D A ws' cells slots (pc + 1) ls st) : CJ p l e R s m args below meth c Q D A ws cells slots pc ls (.int (Int32.ofInt x) :: .int (Int32.ofInt i) :: .ref a :: st) :=
  fun H locs hP hD hS => va_bast (tys := tysC ca) X.1 X.2.1 X.2.2.2.2.2.1 hP hD hS q0 1 he rfl (vin_of hr hi.1 hi.2) d (fun H1 locs1 hP1 hD1 hS1 => by
    have e : upd (fun k => Int32.ofInt (f k)) (Int32.ofInt i).toNatClampNeg (vp_nar .byte (Int32.ofInt x)) = fun k => Int32.ofInt (upz f i.toNat x k) := by
      funext k
      rw [oi_clamp hr, nar8, n8_id hx]
      unfold upd upz
      split <;> rfl
    rw [e, hws] at hP1 hD1
    exact kk H1 locs1 hP1 hD1 hS1)
theorem ge_not {x y : Int} (hx : inR x) (hy : inR y) (h : x < y) : ¬ Int32.ofInt y ≤ Int32.ofInt x := fun z => by
  have := (oi_le hy hx).mp z
  omega
/-- the inner loop -/
theorem mix_in (X : CE D ca RX3 cX3_init 4 p s m args c A) {q q1 : Nat} {i : Int} (h1 : 0 ≤ i ∧ i < 81)
    (kend : ∀ (g : Nat → Int) (ls : Array Slot), JH g i 81 → lv_has ls 4 [(1, .int (Int32.ofInt i)), (0, .ref q)] → CJ p l e R s m args below meth c Q D A [(q, .inr (3, [.ref q1])), (q1, .inl (ca 1, 6561, .inl fun k => Int32.ofInt (g k)))] cells slots 72 ls []) (k : Nat) : ∀ (j : Int) (g : Nat → Int) (ls : Array Slot), 0 ≤ j → j + k = 81 → JH g i j → lv_has ls 4 [(2, .int (Int32.ofInt j)), (1, .int (Int32.ofInt i)), (0, .ref q)] → CJ p l e R s m args below meth c Q D A [(q, .inr (3, [.ref q1])), (q1, .inl (ca 1, 6561, .inl fun k => Int32.ofInt (g k)))] cells slots 23 ls [] := by
  induction k with
  | zero =>
    intro j g ls hj0 hjk hJ hl
    have e : j = 81 := by omega
    subst e
    refine CJ.iload X dX3_init_23 rfl (lv_at hl 0 rfl) ?_
    refine CJ.bipush X (Int32.ofInt 81) dX3_init_24 (by decide) ?_
    refine CJ.ge_y X 72 dX3_init_26 (by decide) (Int32.le_refl _) ?_
    exact kend g ls hJ (lv_sub hl [1, 2] rfl)
  | succ k ih =>
    intro j g ls hj0 hjk hJ hl
    have h2 : 0 ≤ j ∧ j < 81 := by omega
    obtain ⟨e1, hJ'⟩ := JH_step h1 h2 hJ
    have hm := madd4_b (i / 3) (j / 3)
    have hm2 := madd4_b i j
    have hs := madd4_step i j h1 h2
    have ri : inR i := by unfold inR; omega
    have rj : inR j := by unfold inR; omega
    refine CJ.iload X dX3_init_23 rfl (lv_at hl 0 rfl) ?_
    refine CJ.bipush X (Int32.ofInt 81) dX3_init_24 (by decide) ?_
    refine CJ.ge_n X 72 dX3_init_26 (by decide) (ge_not rj (by decide) h2.2) ?_
    refine CJ.aload X dX3_init_29 rfl (lv_at hl 2 rfl) ?_
    refine CJ.get X (.ref q1) ck3 0 rfl 0 (by decide) cq47 rfl dX3_init_30 ?_
    refine CJ.iload X dX3_init_33 rfl (lv_at hl 1 rfl) ?_
    refine CJ.iconst X (Int32.ofInt 3) dX3_init_34 rfl ?_
    refine CJ.idiv X (i / 3) dX3_init_35 ri (by decide) (by decide) (by rw [Int.tdiv_eq_ediv_of_nonneg h1.1]; exact w32_id (by unfold inR; omega)) ?_
    refine CJ.bipush X (Int32.ofInt 81) dX3_init_36 (by decide) ?_
    refine CJ.imul X (i / 3 * 81) dX3_init_38 rfl ?_
    refine CJ.iload X dX3_init_39 rfl (lv_at hl 0 rfl) ?_
    refine CJ.iconst X (Int32.ofInt 3) dX3_init_40 rfl ?_
    refine CJ.idiv X (j / 3) dX3_init_41 rj (by decide) (by decide) (by rw [Int.tdiv_eq_ediv_of_nonneg h2.1]; exact w32_id (by unfold inR; omega)) ?_
    refine CJ.iad X (i / 3 * 81 + j / 3) dX3_init_42 rfl ?_
    refine CJ.bald X (madd 4 (i / 3) (j / 3)) 1 rfl (by omega) (by unfold inR; omega) e1 dX3_init_43 ?_
    refine CJ.istore X [(3, .int (Int32.ofInt (madd 4 (i / 3) (j / 3)))), (2, .int (Int32.ofInt j)), (1, .int (Int32.ofInt i)), (0, .ref q)] dX3_init_44 rfl hl (by decide) rfl (fun ls hl => ?_)
    refine CJ.aload X dX3_init_45 rfl (lv_at hl 3 rfl) ?_
    refine CJ.get X (.ref q1) ck3 0 rfl 0 (by decide) cq47 rfl dX3_init_46 ?_
    refine CJ.iload X dX3_init_49 rfl (lv_at hl 2 rfl) ?_
    refine CJ.bipush X (Int32.ofInt 81) dX3_init_50 (by decide) ?_
    refine CJ.imul X (i * 81) dX3_init_52 rfl ?_
    refine CJ.iload X dX3_init_53 rfl (lv_at hl 1 rfl) ?_
    refine CJ.iad X (i * 81 + j) dX3_init_54 rfl ?_
    refine CJ.iload X dX3_init_55 rfl (lv_at hl 0 rfl) ?_
    refine CJ.iconst X (Int32.ofInt 3) dX3_init_56 rfl ?_
    refine CJ.imul X (madd 4 (i / 3) (j / 3) * 3) dX3_init_57 rfl ?_
    refine CJ.iload X dX3_init_58 rfl (lv_at hl 2 rfl) ?_
    refine CJ.iload X dX3_init_59 rfl (lv_at hl 1 rfl) ?_
    refine CJ.iad X (i + j) dX3_init_60 rfl ?_
    refine CJ.iconst X (Int32.ofInt 3) dX3_init_61 rfl ?_
    refine CJ.irem X ((i + j) % 3) dX3_init_62 (by unfold inR; omega) (by decide) (by decide) (Int.tmod_eq_emod_of_nonneg (by omega)) ?_
    refine CJ.iad X (madd 4 i j) dX3_init_63 hs ?_
    refine CJ.i2b X dX3_init_64 (by omega) ?_
    refine CJ.bast X 1 rfl (by omega) (by unfold inR; omega) (by omega) dX3_init_65 [(q, .inr (3, [.ref q1])), (q1, .inl (ca 1, 6561, .inl fun k => Int32.ofInt (upz g (i * 81 + j).toNat (madd 4 i j) k)))] rfl ?_
    refine CJ.iinc (k := 1) X (Int32.ofInt (j + 1)) [(2, .int (Int32.ofInt (j + 1))), (3, .int (Int32.ofInt (madd 4 (i / 3) (j / 3)))), (1, .int (Int32.ofInt i)), (0, .ref q)] dX3_init_66 hl rfl (by rw [← Int32.ofInt_add]) (by decide) rfl (fun ls hl => ?_)
    refine CJ.goto X 23 dX3_init_69 (by decide) ?_
    exact ih (j + 1) _ ls (by omega) (by omega) hJ' (lv_sub hl [0, 2, 3] rfl)
/-- the outer loop -/
theorem mix_out (X : CE D ca RX3 cX3_init 4 p s m args c A) {q q1 : Nat}
    (kend : ∀ (g : Nat → Int) (ls : Array Slot), JH g 81 0 → CJ p l e R s m args below meth c Q D A [(q, .inr (3, [.ref q1])), (q1, .inl (ca 1, 6561, .inl fun k => Int32.ofInt (g k)))] cells slots 78 ls []) (k : Nat) : ∀ (i : Int) (g : Nat → Int) (ls : Array Slot), 0 ≤ i → i + k = 81 → JH g i 0 → lv_has ls 4 [(1, .int (Int32.ofInt i)), (0, .ref q)] → CJ p l e R s m args below meth c Q D A [(q, .inr (3, [.ref q1])), (q1, .inl (ca 1, 6561, .inl fun k => Int32.ofInt (g k)))] cells slots 15 ls [] := by
  induction k with
  | zero =>
    intro i g ls hi0 hik hJ hl
    have e : i = 81 := by omega
    subst e
    refine CJ.iload X dX3_init_15 rfl (lv_at hl 0 rfl) ?_
    refine CJ.bipush X (Int32.ofInt 81) dX3_init_16 (by decide) ?_
    refine CJ.ge_y X 78 dX3_init_18 (by decide) (Int32.le_refl _) ?_
    exact kend g ls hJ
  | succ k ih =>
    intro i g ls hi0 hik hJ hl
    have ri : inR i := by unfold inR; omega
    refine CJ.iload X dX3_init_15 rfl (lv_at hl 0 rfl) ?_
    refine CJ.bipush X (Int32.ofInt 81) dX3_init_16 (by decide) ?_
    refine CJ.ge_n X 78 dX3_init_18 (by decide) (ge_not ri (by decide) (by omega)) ?_
    refine CJ.iconst X (Int32.ofInt 0) dX3_init_21 rfl ?_
    refine CJ.istore X [(2, .int (Int32.ofInt 0)), (1, .int (Int32.ofInt i)), (0, .ref q)] dX3_init_22 rfl hl (by decide) rfl (fun ls hl => ?_)
    refine mix_in X (by omega) (fun g ls hJ hl => ?_) 81 0 g ls (by omega) (by omega) hJ hl
    refine CJ.iinc (k := 0) X (Int32.ofInt (i + 1)) [(1, .int (Int32.ofInt (i + 1))), (0, .ref q)] dX3_init_72 hl rfl (by rw [← Int32.ofInt_add]) (by decide) rfl (fun ls hl => ?_)
    refine CJ.goto X 15 dX3_init_75 (by decide) ?_
    exact ih (i + 1) g ls (by omega) (by omega) ⟨hJ.1, hJ.2.1, fun a b a0 a1 b0 b1 hl => hJ.2.2 a b a0 a1 b0 b1 (by omega)⟩ hl
end CTM
def YX3_init : MR := (yX3_init, cX3_init, 4, none, 1, 12)
set_option maxHeartbeats 4000000 in
set_option maxRecDepth 100000 in
theorem c_X3_init {l : Launch} {D : va_G} {ca : Nat → ClassId} : MC l D ca YX3_init 3 [.null] [] 1 6561 (fun u => JG u.2 : (Nat × (Nat → Int)) → Prop) (mixC ca) := by
  intro q sz
  refine Met.ofW (cc := cX3_init) (maxL := 4) (ret := none) (by decide) rfl ?_
  intro p e s m args below meth c s₁ B hml hv
  obtain ⟨rfl, hsz, hP, hK, hD0, hNw, hAO⟩ := hv
  have hr := B.returns
  have hlocks := B.notSynchronized
  have hts0 := atoms_spec (ws := wsY YX3_init) B.pre
  have hin : meth.name = "<init>" := (name_of_methodNamed B.named B.method).1
  have hown : s.vm.findClass RX3 = some m.cls := findClass_of_methodNamed B.named
  subst hsz
  have hD := hD0.self (sz := s.heap.size)
  have hl := lv_entry ([.ref q]) (n := 4) (Nat.le_of_ble_eq_true rfl)
  rw [lg_entry_eq]
  generalize (lg_sl ([.ref q]) ++ List.replicate (4 - (lg_sl ([.ref q])).length) Slot.unset).toArray = ls at hl ⊢
  have hl : lv_has ls 4 [(0, .ref q)] := hl
  generalize hAe : va_A [(q, .inr (3, [.null]))] s.heap.size = A at hD ⊢
  have X : CE D ca RX3 cX3_init 4 p s m _ c A := ⟨B.exec, B.bytes, hml, hown, fun w hw => hts0 w (List.mem_cons_of_mem _ hw), hK, fun z hz => by rw [← hAe]; exact Or.inr hz, hNw, hAO⟩
  refine (?_ : CJ p l e _ s m _ below meth c _ D A [(q, .inr (3, [.null]))] 0 0 0 ls []) s.heap [] hP hD va_S.rf
  refine CJ.aload X dX3_init_0 rfl (lv_at hl 0 rfl) ?_
  refine CJ.objInit X hl.1 cq46 cq39 cq40 dX3_init_1 (Nat.le_of_ble_eq_true rfl) (Nat.le_of_ble_eq_true rfl) ?_
  refine CJ.aload X dX3_init_4 rfl (lv_at hl 0 rfl) ?_
  refine CJ.sipush X (Int32.ofInt 6561) dX3_init_5 (by decide) ?_
  refine CJ.arr (atype := .byte) (ty := .byte) X 1 rfl rfl (fun _ h => h) cq51 rfl 6561 (by decide) (by decide) (Nat.le_of_ble_eq_true rfl) (Nat.le_of_ble_eq_true rfl) (Nat.le_of_ble_eq_true rfl) dX3_init_8 (fun q1 => ?_)
  refine CJ.putF X hin ck3 0 rfl 0 (by decide) cq47 rfl rfl rfl rfl (Nat.le_of_ble_eq_true rfl) dX3_init_10 [(q, .inr (3, [.ref q1])), (q1, .inl (ca 1, 6561, .inl fun _ => Int32.ofInt 0))] rfl ?_
  refine CJ.iconst X (Int32.ofInt 0) dX3_init_13 rfl ?_
  refine CJ.istore X [(1, .int (Int32.ofInt 0)), (0, .ref q)] dX3_init_14 rfl hl (by decide) rfl (fun ls hl => ?_)
  refine mix_out (q := q) (q1 := q1) X (fun g ls hJ => ?_) 81 0 (fun _ => 0) ls (by omega) (by omega) ⟨fun _ => (by decide : inR 0), rfl, fun a b a0 a1 b0 b1 hl => by omega⟩ hl
  exact CJ.vret X hr hlocks dX3_init_78 (fun _ h => h) (fun H locs t hP hD hS ht hW => ⟨⟨(q1, g), rfl, ⟨hJ.1, fun a b a0 a1 b0 b1 => hJ.2.2 a b a0 a1 b0 b1 (Or.inl a1)⟩, by rw [ht]; exact hP, va_K.moved hW.alike hK, hD⟩, hS.F ht⟩)

