/-! the law's start -/
theorem cq79 : Cond.classLink RL 7 RX7 ∈ WS := mw 79 (by decide +kernel) rfl
theorem cq80 : Cond.instantiable RX7 9 ∈ WS := mw 80 (by decide +kernel) rfl
theorem cq81 : Cond.methodLink RL 9 yX7_init ∈ WS := mw 81 (by decide +kernel) rfl
theorem cq82 : Cond.instanceMethod yX7_init ∈ WS := mw 82 (by decide +kernel) rfl
theorem cq83 : Cond.code yX7_init cX7_init 1 none ∈ WS := mw 83 (by decide +kernel) rfl
theorem cq832 : Cond.classLink RL 10 RX8 ∈ WS := mw 832 (by decide +kernel) rfl
theorem cq833 : Cond.instantiable RX8 19 ∈ WS := mw 833 (by decide +kernel) rfl
theorem cq834 : Cond.methodLink RL 12 yX8_init ∈ WS := mw 834 (by decide +kernel) rfl
theorem cq835 : Cond.instanceMethod yX8_init ∈ WS := mw 835 (by decide +kernel) rfl
theorem cq836 : Cond.code yX8_init cX8_init 2 none ∈ WS := mw 836 (by decide +kernel) rfl
theorem k_start {s : State} {args : Array Value} (hts : ∀ w ∈ WS, w.before args s = true) (hAO : va_AO "SpiceThrees$Shop" s) : ∃ (D : va_G) (ca : Nat → ClassId), va_K D vwCl (tysC ca) s := by
  obtain ⟨c0, i0, k0⟩ := u_known (C := RX0) (T := TX0) (N := 4) hts ck0.2.1 (hts _ cq214)
  obtain ⟨c1, i1, k1⟩ := u_known (C := RX1) (T := TX1) (N := 4) hts ck1.2.1 (hts _ cq267)
  obtain ⟨c2, i2, k2⟩ := u_known (C := RX2) (T := TX2) (N := 3) hts ck2.2.1 (hts _ cq194)
  obtain ⟨c3, i3, k3⟩ := u_known (C := RX3) (T := TX3) (N := 1) hts ck3.2.1 (hts _ cq88)
  obtain ⟨c4, i4, k4⟩ := u_known (C := RX4) (T := TX4) (N := 10) hts ck4.2.1 (hts _ cq135)
  obtain ⟨c5, i5, k5⟩ := u_known (C := RX5) (T := TX5) (N := 9) hts ck5.2.1 (hts _ cq99)
  obtain ⟨c6, i6, k6⟩ := u_known (C := RX6) (T := TX6) (N := 7) hts ck6.2.1 (hts _ cq233)
  obtain ⟨c7, i7, k7⟩ := u_known (C := RX7) (T := TX7) (N := 9) hts ck7.2.1 (hts _ cq80)
  obtain ⟨c8, i8, k8⟩ := u_known (C := RX8) (T := TX8) (N := 19) hts ck8.2.1 (hts _ cq833)
  obtain ⟨a0, g0⟩ := arr_known (hts _ cq133) (fun _ h => h)
  obtain ⟨a1, g1⟩ := arr_known (hts _ cq97) (fun _ h => h)
  obtain ⟨a2, g2⟩ := arr_known (hts _ cq285) (fun _ h => h)
  obtain ⟨a3, g3⟩ := arr_known (hts _ cq265) (fun _ h => h)
  obtain ⟨a4, g4⟩ := arr_known (hts _ cq896) (fun _ h => h)
  obtain ⟨a5, g5⟩ := arr_knownO (va_AO.use (A := args) hAO)
  refine ⟨(fun c => match c with | 0 => c0 | 1 => c1 | 2 => c2 | 3 => c3 | 4 => c4 | 5 => c5 | 6 => c6 | 7 => c7 | _ => c8, fun c => match c with | 0 => i0 | 1 => i1 | 2 => i2 | 3 => i3 | 4 => i4 | 5 => i5 | 6 => i6 | 7 => i7 | _ => i8), fun k => match k with | 0 => a0 | 1 => a1 | 2 => a2 | 3 => a3 | 4 => a4 | _ => a5, fun c q hq => ?_, fun k q hk => ?_⟩
  · match c with
    | 0 => cases hq; exact k0
    | 1 => cases hq; exact k1
    | 2 => cases hq; exact k2
    | 3 => cases hq; exact k3
    | 4 => cases hq; exact k4
    | 5 => cases hq; exact k5
    | 6 => cases hq; exact k6
    | 7 => cases hq; exact k7
    | 8 => cases hq; exact k8
    | c + 9 => cases hq
  · match k with
    | 0 => cases hk; exact g0
    | 1 => cases hk; exact g1
    | 2 => cases hk; exact g2
    | 3 => cases hk; exact g3
    | 4 => cases hk; exact g4
    | 5 => cases hk; exact g5
    | k + 6 => cases hk
theorem va_P_l {D : va_G} {cl : List vw_C} {w1 w2 : va_W} {H : Heap} (h : va_P D cl (w1 ++ w2) H) : va_P D cl w1 H := fun k q hk => h k q (by rw [List.getElem?_append_left (List.getElem?_eq_some_iff.mp hk).1]; exact hk)
theorem va_P_r {D : va_G} {cl : List vw_C} {w1 w2 : va_W} {H : Heap} (h : va_P D cl (w1 ++ w2) H) : va_P D cl w2 H := fun k q hk => h (w1.length + k) q (by rw [List.getElem?_append_right (by omega), show w1.length + k - w1.length = k by omega]; exact hk)
theorem va_D_l {A : Nat → Prop} {w1 w2 : va_W} (h : va_D A (w1 ++ w2)) : va_D A w1 := by
  have g : ∀ (k : Nat) (q : Nat × va_E), w1[k]? = some q → (w1 ++ w2)[k]? = some q := fun k q hk => by rw [List.getElem?_append_left (List.getElem?_eq_some_iff.mp hk).1]; exact hk
  exact ⟨fun i j x y hi hj e => h.1 i j x y (g i x hi) (g j y hj) e, fun k q hk => h.2 k q (g k q hk)⟩
theorem va_D_r {A : Nat → Prop} {w1 w2 : va_W} (h : va_D A (w1 ++ w2)) : va_D A w2 := by
  have g : ∀ (k : Nat) (q : Nat × va_E), w2[k]? = some q → (w1 ++ w2)[w1.length + k]? = some q := fun k q hk => by rw [List.getElem?_append_right (by omega), show w1.length + k - w1.length = k by omega]; exact hk
  exact ⟨fun i j x y hi hj e => by have := h.1 _ _ x y (g i x hi) (g j y hj) e; omega, fun k q hk => h.2 _ q (g k q hk)⟩
theorem va_D_x {A : Nat → Prop} {w1 w2 : va_W} (h : va_D A (w1 ++ w2)) {i j : Nat} {x y : Nat × va_E} (hi : w1[i]? = some x) (hj : w2[j]? = some y) : x.1 ≠ y.1 := fun e => by
  have hl := (List.getElem?_eq_some_iff.mp hi).1
  have := h.1 i (w1.length + j) x y (by rw [List.getElem?_append_left hl]; exact hi) (by rw [List.getElem?_append_right (by omega), show w1.length + j - w1.length = j by omega]; exact hj) e
  omega
section AST
variable {p : Program} {l : Launch} {e : Env} {R : Room} {s : State} {m : MethodId} {args : Array Value} {below : List Frame} {meth : Method} {c : Code} {Q : State → Prop} {cc : ByteArray} {own : String} {n : Nat} {D : va_G} {ca : Nat → ClassId} {A : Nat → Prop} {ws : va_W} {cells slots pc : Nat} {ls : Array Slot} {st : List Value}
theorem CJ.astore (X : CE D ca own cc n p s m args c A) {k : Fin 4} {i x : Nat} {lv : List (Nat × Value)} (lv' : List (Nat × Value)) (d : decode cc pc = .ok (.astore_n k, 1)) (hi : (k : Nat) = i) (h : lv_has ls n lv) (hn : i < n) (hl : (i, Value.ref x) :: lv.filter (fun q => !(q.1 == i) && !(q.1 + 1 == i && q.2.category == 2)) = lv') (kk : ∀ ls' : Array Slot, lv_has ls' n lv' → CJ p l e R s m args below meth c Q D A ws cells slots (pc + 1) ls' st) : CJ p l e R s m args below meth c Q D A ws cells slots pc ls (.ref x :: st) :=
  fun H locs hP hD hS => lv_astore_n X.1 X.2.1 d hi h hn hl (fun ls' h' => kk ls' h' H locs hP hD hS)
end AST
theorem shX_len : shX.length = 69 := rfl
theorem shM_len : shM.length = 11 := rfl
theorem apart_of {A : Nat → Prop} {sh sh2 : List Descr} {ad ad2 : Nat → Nat} {ca : Nat → ClassId} {ν μ : Mem} (h : va_D A (wd sh ad ca ν ++ wd sh2 ad2 ca μ)) : ∀ i j, i < sh.length → j < sh2.length → ad i ≠ ad2 j := fun i j hi hj =>
  va_D_x h (wd_get (List.getElem?_eq_getElem hi)) (wd_get (List.getElem?_eq_getElem hj))
set_option maxHeartbeats 1000000 in
theorem law_go {p : Program} {l : Launch} {e : Env} {s : State} {m : MethodId} {below : List Frame} {meth : Method} {c : Code} {b L : Nat} {xs : Nat → Int32} {D : va_G} {ca : Nat → ClassId} {A : Nat → Prop} {stat : Nat → Nat} {qX qM : Nat} {uX : (Nat → Nat) × (Nat → Int)} {uM : Nat → Nat} {ls : Array Slot} {cells slots : Nat} (hL : L ≤ 2048) (X : CE D ca RL cL_law 8 p s m #[Value.ref b] c A) (hSF : SF stat A s s.heap) (hAd : A = fun q : Nat => s.heap.size ≤ q) (hX : va_X b L xs s s.heap) (hbl : b < s.heap.size) (hr : meth.sig.returnType = ret) (hlocks : meth.locks = false) (huX : JG uX.2) (hl : lv_has ls 8 [(3, .int (Int32.ofInt ((0 : Nat) : Int))), (2, .ref qM), (1, .ref qX), (0, .ref b)]) (hc : cells ≤ 600000) (hs : slots ≤ 7302250) (H : Heap) (locs : List Loc) (hP : va_P D vwCl (sysC stat ca qX uX ++ wd shM (adM stat qM uM) ca mu0) H) (hD : va_D A (sysC stat ca qX uX ++ wd shM (adM stat qM uM) ca mu0)) (hS : va_S A s.heap H locs) : W p l e room_1 s m #[Value.ref b] below meth c H locs cells slots (lw_Z below #[Value.ref b] s) (F0 m 18 ls []) := by
  have hx := X.1
  have hb := X.2.1
  have hnA : ∀ q : Nat, q < s.heap.size → ¬ A q := fun q h z => by rw [hAd] at z; exact Nat.not_le.mpr h z
  rw [sysC] at hP hD
  have hap := apart_of hD
  rw [shX_len, shM_len] at hap
  have hPX := va_P_l hP
  have hPM := va_P_r hP
  have hDX := va_D_l hD
  have hDM := va_D_r hD
  have hSX : SF (adX stat qX uX.1) A s s.heap := SF_cong (fun k hk => if_pos hk) hSF
  have hSM : SF (adM stat qM uM) A s s.heap := SF_cong (fun k hk => if_pos hk) hSF
  have e1 : adX stat qX uX.1 0 = qX := by unfold adX; rw [if_neg (by omega), if_pos rfl]
  have e2 : adM stat qM uM 0 = qM := by unfold adM; rw [if_neg (by omega), if_pos rfl]
  rw [← e1, ← e2] at hl
  refine law_loop (aX := adX stat qX uX.1) (aM := adM stat qM uM) (b := b) (L := L) (xs := xs) (cells := cells) (slots := slots) ⟨X, hSX, hSM, fun ν => wd_D hDX, fun μ => wd_D hDM, hap, ⟨hX, hbl, hnA b hbl, hL⟩, hc, hs⟩ (fun ν' μ' ls' => ?_) 514 0 (nu0 uX.2) mu0 0 ls (by omega) (by omega) (RM_nu0 huX.1) RM_mu0 rfl MI_0 (XI_0 huX) hl H locs hPX hPM hS
  intro H locs hP hP2 hS
  refine lv_iconst (v := 1) hx hb dL_law_910 (by decide) ?_
  refine va_forget (fun q hq => (by have h := hS.2.2 q hq; rw [hAd] at h; exact h)) ?_
  refine W.widen (k := 600000) (n := 7302250) hc hs ?_
  exact lw_ret (d0 := s.drawn) (Drawn.sameBut.refl s.drawn lw_cs) hx hb hr hlocks dL_law_911
set_option maxHeartbeats 4000000 in
set_option maxRecDepth 100000 in
/-- from the entry, for every script of at most 2048 ints, the law comes to its end with true -/
theorem whole_start {p : Program} {e : Env} {s : State} {m : MethodId} {below : List Frame} {meth : Method} {c : Code} (l : Launch) (hflags : l.flags = flags0) {b L : Nat} {xs : Nat → Int32} (hL : L ≤ 2048) (C0 : lw_At p s m meth c b L xs) : W p l e room_1 s m #[Value.ref b] below meth c s.heap [] 0 0 (lw_Z below #[Value.ref b] s) (entryFrame m ([Value.ref b] : List Value).toArray 8) := by
  obtain ⟨hx, hb, hr, hml, hown, hts0, hX, hbl, hlocks, hgv⟩ := id C0
  have hWS : ∀ w ∈ WS, w.before #[Value.ref b] s = true := fun w hw => hts0 w (List.mem_filter.mp hw).1
  have hNw : ∀ w ∈ NWS, va_Nw w s := fun w hw => va_Nw.of (nw_tab hw) (hts0 w (List.mem_filter.mp hw).1)
  have hAO : va_AO "SpiceThrees$Shop" s := va_AO.of (hts0 _ (List.mem_of_getElem? (i := 200) (by decide +kernel)))
  obtain ⟨D, ca, hK⟩ := k_start hWS hAO
  obtain ⟨A, hAd⟩ : ∃ A : Nat → Prop, A = fun q : Nat => s.heap.size ≤ q := ⟨_, rfl⟩
  have hA : ∀ q : Nat, s.heap.size ≤ q → A q := fun q h => by rw [hAd]; exact h
  have hnA : ∀ q : Nat, q < s.heap.size → ¬ A q := fun q h z => by rw [hAd] at z; exact Nat.not_le.mpr h z
  obtain ⟨stat, hSF⟩ := st_all (flat_of_before _ hgv) hts0 hnA hNw
  have X : CE D ca RL cL_law 8 p s m #[Value.ref b] c A := ⟨hx, hb, hml, hown, hWS, hK, hA, hNw, hAO⟩
  have hl := lv_entry ([.ref b]) (n := 8) (Nat.le_of_ble_eq_true rfl)
  rw [lg_entry_eq]
  generalize (lg_sl ([.ref b]) ++ List.replicate (8 - (lg_sl ([.ref b])).length) Slot.unset).toArray = ls at hl ⊢
  have hl : lv_has ls 8 [(0, .ref b)] := hl
  refine (?_ : CJ p l e room_1 s m #[Value.ref b] below meth c (lw_Z below #[Value.ref b] s) D A [] 0 0 0 ls []) s.heap [] (fun k q h => by simp at h) ⟨fun i j x y h => by simp at h, fun k q h => by simp at h⟩ va_S.rf
  refine CJ.new X ck7 [.null, .null, .null, .null, .int (Int32.ofInt 0), .null, .null, .null, .null] cq79 cq80 cq62 (fun j hj => by rcases (show j = 0 ∨ j = 1 ∨ j = 2 ∨ j = 3 ∨ j = 4 ∨ j = 5 ∨ j = 6 ∨ j = 7 ∨ j = 8 by omega) with rfl | rfl | rfl | rfl | rfl | rfl | rfl | rfl | rfl <;> rfl) (Nat.le_of_ble_eq_true rfl) (Nat.le_of_ble_eq_true rfl) dL_law_0 (fun qX => ?_)
  refine CJ.dup X dL_law_3 ?_
  refine CJ.ctor (as := []) (c_X7_init stat) X hl.1 cq81 cq82 cq62 cq83 rfl rfl ⟨by decide +kernel, by decide +kernel, (by decide +kernel : (parseMethodDescriptor YX7_init.1.desc).map (fun d => d.parameters.length) = some 0)⟩ (by decide) rfl (Nat.le_of_ble_eq_true rfl) dL_law_4 (Nat.le_of_ble_eq_true rfl) (Nat.le_of_ble_eq_true rfl) (fun uX huX => ?_)
  refine CJ.astore X [(1, .ref qX), (0, .ref b)] dL_law_7 rfl hl (by decide) rfl (fun ls hl => ?_)
  refine CJ.new X ck8 [.null, .null, .null, .int (Int32.ofInt 0), .null, .int (Int32.ofInt 0), .null, .int (Int32.ofInt 0), .int (Int32.ofInt 0), .int (Int32.ofInt 0), .null, .null, .null, .null, .int (Int32.ofInt 0), .int (Int32.ofInt 0), .int (Int32.ofInt 0), .int (Int32.ofInt 0), .null] cq832 cq833 cq70 (fun j hj => by rcases (show j = 0 ∨ j = 1 ∨ j = 2 ∨ j = 3 ∨ j = 4 ∨ j = 5 ∨ j = 6 ∨ j = 7 ∨ j = 8 ∨ j = 9 ∨ j = 10 ∨ j = 11 ∨ j = 12 ∨ j = 13 ∨ j = 14 ∨ j = 15 ∨ j = 16 ∨ j = 17 ∨ j = 18 by omega) with rfl | rfl | rfl | rfl | rfl | rfl | rfl | rfl | rfl | rfl | rfl | rfl | rfl | rfl | rfl | rfl | rfl | rfl | rfl <;> rfl) (Nat.le_of_ble_eq_true rfl) (Nat.le_of_ble_eq_true rfl) dL_law_8 (fun qM => ?_)
  refine CJ.dup X dL_law_11 ?_
  refine CJ.ctor (as := []) c_X8_init X hl.1 cq834 cq835 cq70 cq836 rfl rfl ⟨by decide +kernel, by decide +kernel, (by decide +kernel : (parseMethodDescriptor YX8_init.1.desc).map (fun d => d.parameters.length) = some 0)⟩ (by decide) rfl (Nat.le_of_ble_eq_true rfl) dL_law_12 (Nat.le_of_ble_eq_true rfl) (Nat.le_of_ble_eq_true rfl) (fun uM huM => ?_)
  refine CJ.astore X [(2, .ref qM), (1, .ref qX), (0, .ref b)] dL_law_15 rfl hl (by decide) rfl (fun ls hl => ?_)
  refine CJ.iconst X (Int32.ofInt 0) dL_law_16 rfl ?_
  refine CJ.istore X [(3, .int (Int32.ofInt 0)), (2, .ref qM), (1, .ref qX), (0, .ref b)] dL_law_17 rfl hl (by decide) rfl (fun ls hl => ?_)
  intro H locs hP hD hS
  rw [mod_eq (stat := stat), List.nil_append] at hP hD
  exact law_go hL X hSF hAd hX hbl hr hlocks huX hl (Nat.le_of_ble_eq_true rfl) (Nat.le_of_ble_eq_true rfl) H locs hP hD hS
