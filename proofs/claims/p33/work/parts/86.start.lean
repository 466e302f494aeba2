/-! the law's start -/
theorem cq33 : Cond.classLink RL 9 RX7 ∈ WS := mw 33 (by decide +kernel) rfl
theorem cq34 : Cond.instantiable RX7 9 ∈ WS := mw 34 (by decide +kernel) rfl
theorem cq35 : Cond.methodLink RL 97 yX7_init ∈ WS := mw 35 (by decide +kernel) rfl
theorem cq36 : Cond.instanceMethod yX7_init ∈ WS := mw 36 (by decide +kernel) rfl
theorem cq37 : Cond.code yX7_init cX7_init 1 none ∈ WS := mw 37 (by decide +kernel) rfl
theorem k_start {s : State} {args : Array Value} (hts : ∀ w ∈ WS, w.before args s = true) (hAO : va_AO "SpiceThrees$Shop" s) : ∃ (D : va_G) (ca : Nat → ClassId), va_K D vwCl (tysC ca) s := by
  obtain ⟨c0, i0, k0⟩ := u_known (C := RX0) (T := TX0) (N := 4) hts ck0.2.1 (hts _ cq168)
  obtain ⟨c1, i1, k1⟩ := u_known (C := RX1) (T := TX1) (N := 4) hts ck1.2.1 (hts _ cq217)
  obtain ⟨c2, i2, k2⟩ := u_known (C := RX2) (T := TX2) (N := 3) hts ck2.2.1 (hts _ cq148)
  obtain ⟨c3, i3, k3⟩ := u_known (C := RX3) (T := TX3) (N := 1) hts ck3.2.1 (hts _ cq42)
  obtain ⟨c4, i4, k4⟩ := u_known (C := RX4) (T := TX4) (N := 10) hts ck4.2.1 (hts _ cq89)
  obtain ⟨c5, i5, k5⟩ := u_known (C := RX5) (T := TX5) (N := 9) hts ck5.2.1 (hts _ cq53)
  obtain ⟨c6, i6, k6⟩ := u_known (C := RX6) (T := TX6) (N := 7) hts ck6.2.1 (hts _ cq187)
  obtain ⟨c7, i7, k7⟩ := u_known (C := RX7) (T := TX7) (N := 9) hts ck7.2.1 (hts _ cq34)
  obtain ⟨a0, g0⟩ := arr_known (hts _ cq87) (fun _ h => h)
  obtain ⟨a1, g1⟩ := arr_known (hts _ cq51) (fun _ h => h)
  obtain ⟨a2, g2⟩ := arr_known (hts _ cq235) (fun _ h => h)
  obtain ⟨a3, g3⟩ := arr_known (hts _ cq215) (fun _ h => h)
  obtain ⟨a5, g5⟩ := arr_knownO (va_AO.use (A := args) hAO)
  refine ⟨(fun c => match c with | 0 => c0 | 1 => c1 | 2 => c2 | 3 => c3 | 4 => c4 | 5 => c5 | 6 => c6 | _ => c7, fun c => match c with | 0 => i0 | 1 => i1 | 2 => i2 | 3 => i3 | 4 => i4 | 5 => i5 | 6 => i6 | _ => i7), fun k => match k with | 0 => a0 | 1 => a1 | 2 => a2 | 3 => a3 | _ => a5, fun c q hq => ?_, fun k q hk => ?_⟩
  · match c with
    | 0 => cases hq; exact k0
    | 1 => cases hq; exact k1
    | 2 => cases hq; exact k2
    | 3 => cases hq; exact k3
    | 4 => cases hq; exact k4
    | 5 => cases hq; exact k5
    | 6 => cases hq; exact k6
    | 7 => cases hq; exact k7
    | c + 8 => cases hq
  · match k with
    | 0 => cases hk; exact g0
    | 1 => cases hk; exact g1
    | 2 => cases hk; exact g2
    | 3 => cases hk; exact g3
    | 4 => cases hk; exact g0
    | 5 => cases hk; exact g5
    | k + 6 => cases hk
section AST
variable {p : Program} {l : Launch} {e : Env} {R : Room} {s : State} {m : MethodId} {args : Array Value} {below : List Frame} {meth : Method} {c : Code} {Q : State → Prop} {cc : ByteArray} {own : String} {n : Nat} {D : va_G} {ca : Nat → ClassId} {A : Nat → Prop} {ws : va_W} {cells slots pc : Nat} {ls : Array Slot} {st : List Value}
theorem CJ.astore (X : CE D ca own cc n p s m args c A) {k : Fin 4} {i x : Nat} {lv : List (Nat × Value)} (lv' : List (Nat × Value)) (d : decode cc pc = .ok (.astore_n k, 1)) (hi : (k : Nat) = i) (h : lv_has ls n lv) (hn : i < n) (hl : (i, Value.ref x) :: lv.filter (fun q => !(q.1 == i) && !(q.1 + 1 == i && q.2.category == 2)) = lv') (kk : ∀ ls' : Array Slot, lv_has ls' n lv' → CJ p l e R s m args below meth c Q D A ws cells slots (pc + 1) ls' st) : CJ p l e R s m args below meth c Q D A ws cells slots pc ls (.ref x :: st) :=
  fun H locs hP hD hS => lv_astore_n X.1 X.2.1 d hi h hn hl (fun ls' h' => kk ls' h' H locs hP hD hS)
end AST
set_option maxHeartbeats 1000000 in
theorem law_go {p : Program} {l : Launch} {e : Env} {s : State} {m : MethodId} {below : List Frame} {meth : Method} {c : Code} {b L : Nat} {xs : Nat → Int32} {D : va_G} {ca : Nat → ClassId} {A : Nat → Prop} {stat : Nat → Nat} {qX : Nat} {uX : (Nat → Nat) × (Nat → Int)} {ls : Array Slot} {cells slots : Nat} (hL : L ≤ 260) (X : CE D ca RL cL_law 9 p s m #[Value.ref b] c A) (hSF : SF stat A s s.heap) (hAd : A = fun q : Nat => s.heap.size ≤ q) (hX : va_X b L xs s s.heap) (hbl : b < s.heap.size) (hr : meth.sig.returnType = ret) (hlocks : meth.locks = false) (huX : JG uX.2) (hl : lv_has ls 9 [(3, .int (Int32.ofInt ((0 : Nat) : Int))), (2, .int (Int32.ofInt 0)), (1, .ref qX), (0, .ref b)]) (hc : cells ≤ 600000) (hs : slots ≤ 7302250) (H : Heap) (locs : List Loc) (hP : va_P D vwCl (sysC stat ca qX uX) H) (hD : va_D A (sysC stat ca qX uX)) (hS : va_S A s.heap H locs) : W p l e room_1 s m #[Value.ref b] below meth c H locs cells slots (lw_Z below #[Value.ref b] s) (F0 m 12 ls []) := by
  have hx := X.1
  have hb := X.2.1
  have hnA : ∀ q : Nat, q < s.heap.size → ¬ A q := fun q h z => by rw [hAd] at z; exact Nat.not_le.mpr h z
  rw [sysC] at hP hD
  have hSX : SF (adX stat qX uX.1) A s s.heap := SF_cong (fun k hk => if_pos hk) hSF
  have e1 : adX stat qX uX.1 0 = qX := by unfold adX; rw [if_neg (by omega), if_pos rfl]
  have e0 : a0 43 + a0 58 + a0 59 = 0 := by rw [a0_hi (by decide), a0_hi (by decide), a0_hi (by decide)]; rfl
  rw [← e1] at hl
  refine law_loop (aX := adX stat qX uX.1) (b := b) (L := L) (xs := xs) (cells := cells) (slots := slots) ⟨X, hSX, fun ν => wd_D hD, ⟨hX, hbl, hnA b hbl, hL⟩, hc, hs⟩ (fun ν' ls' => ?_) 44 0 (nu0 uX.2) a0 0 ls rfl (RM_nu0 huX.1) (ST_0 huX) OD_0 BL_0 e0 hl H locs hP hS
  intro H locs hP hS
  refine lv_iconst (v := 1) hx hb dL_law_221 (by decide) ?_
  refine va_forget (fun q hq => (by have h := hS.2.2 q hq; rw [hAd] at h; exact h)) ?_
  refine W.widen (k := 600000) (n := 7302250) hc hs ?_
  exact lw_ret hx hb hr hlocks dL_law_222
set_option maxHeartbeats 4000000 in
set_option maxRecDepth 100000 in
/-- from the entry, for every script of at most 260 ints, the law comes to its end with true -/
theorem whole_start {p : Program} {e : Env} {s : State} {m : MethodId} {below : List Frame} {meth : Method} {c : Code} (l : Launch) (hflags : l.flags = flags0) {b L : Nat} {xs : Nat → Int32} (hL : L ≤ 260) (C0 : lw_At p s m meth c b L xs) : W p l e room_1 s m #[Value.ref b] below meth c s.heap [] 0 0 (lw_Z below #[Value.ref b] s) (entryFrame m ([Value.ref b] : List Value).toArray 9) := by
  obtain ⟨hx, hb, hr, hml, hown, hts0, hX, hbl, hlocks, hgv⟩ := id C0
  have hWS : ∀ w ∈ WS, w.before #[Value.ref b] s = true := fun w hw => hts0 w (List.mem_filter.mp hw).1
  have hNw : ∀ w ∈ NWS, va_Nw w s := fun w hw => va_Nw.of (nw_tab hw) (hts0 w (List.mem_filter.mp hw).1)
  have hAO : va_AO "SpiceThrees$Shop" s := va_AO.of (hts0 _ (List.mem_of_getElem? (i := 154) (by decide +kernel)))
  obtain ⟨D, ca, hK⟩ := k_start hWS hAO
  obtain ⟨A, hAd⟩ : ∃ A : Nat → Prop, A = fun q : Nat => s.heap.size ≤ q := ⟨_, rfl⟩
  have hA : ∀ q : Nat, s.heap.size ≤ q → A q := fun q h => by rw [hAd]; exact h
  have hnA : ∀ q : Nat, q < s.heap.size → ¬ A q := fun q h z => by rw [hAd] at z; exact Nat.not_le.mpr h z
  obtain ⟨stat, hSF⟩ := st_all (flat_of_before _ hgv) hts0 hnA hNw
  have X : CE D ca RL cL_law 9 p s m #[Value.ref b] c A := ⟨hx, hb, hml, hown, hWS, hK, hA, hNw, hAO⟩
  have hl := lv_entry ([.ref b]) (n := 9) (Nat.le_of_ble_eq_true rfl)
  rw [lg_entry_eq]
  generalize (lg_sl ([.ref b]) ++ List.replicate (9 - (lg_sl ([.ref b])).length) Slot.unset).toArray = ls at hl ⊢
  have hl : lv_has ls 9 [(0, .ref b)] := hl
  refine (?_ : CJ p l e room_1 s m #[Value.ref b] below meth c (lw_Z below #[Value.ref b] s) D A [] 0 0 0 ls []) s.heap [] (fun k q h => by simp at h) ⟨fun i j x y h => by simp at h, fun k q h => by simp at h⟩ va_S.rf
  refine CJ.new X ck7 [.null, .null, .null, .null, .int (Int32.ofInt 0), .null, .null, .null, .null] cq33 cq34 cq21 (fun j hj => by rcases (show j = 0 ∨ j = 1 ∨ j = 2 ∨ j = 3 ∨ j = 4 ∨ j = 5 ∨ j = 6 ∨ j = 7 ∨ j = 8 by omega) with rfl | rfl | rfl | rfl | rfl | rfl | rfl | rfl | rfl <;> rfl) (Nat.le_of_ble_eq_true rfl) (Nat.le_of_ble_eq_true rfl) dL_law_0 (fun qX => ?_)
  refine CJ.dup X dL_law_3 ?_
  refine CJ.ctor (as := []) (c_X7_init stat) X hl.1 cq35 cq36 cq21 cq37 rfl rfl ⟨by decide +kernel, by decide +kernel, (by decide +kernel : (parseMethodDescriptor YX7_init.1.desc).map (fun d => d.parameters.length) = some 0)⟩ (by decide) rfl (Nat.le_of_ble_eq_true rfl) dL_law_4 (Nat.le_of_ble_eq_true rfl) (Nat.le_of_ble_eq_true rfl) (fun uX huX => ?_)
  refine CJ.astore X [(1, .ref qX), (0, .ref b)] dL_law_7 rfl hl (by decide) rfl (fun ls hl => ?_)
  refine CJ.iconst X (Int32.ofInt 0) dL_law_8 rfl ?_
  refine CJ.istore X [(2, .int (Int32.ofInt 0)), (1, .ref qX), (0, .ref b)] dL_law_9 rfl hl (by decide) rfl (fun ls hl => ?_)
  refine CJ.iconst X (Int32.ofInt 0) dL_law_10 rfl ?_
  refine CJ.istore X [(3, .int (Int32.ofInt 0)), (2, .int (Int32.ofInt 0)), (1, .ref qX), (0, .ref b)] dL_law_11 rfl hl (by decide) rfl (fun ls hl => ?_)
  intro H locs hP hD hS
  rw [List.nil_append] at hP hD
  exact law_go hL X hSF hAd hX hbl hr hlocks huX hl (Nat.le_of_ble_eq_true rfl) (Nat.le_of_ble_eq_true rfl) H locs hP hD hS
