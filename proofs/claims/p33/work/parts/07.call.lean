theorem gin_ws {l : List Cond} (h : ∀ w ∈ l, w ∈ WS) : GoodIn WS l := fun w hw => ⟨h w hw, good_of_word (List.mem_filter.mp (h w hw)).2⟩
theorem ws_sub {Y : MR} (wc : Cond.code Y.1 Y.2.1 Y.2.2.1 Y.2.2.2.1 ∈ WS) : ∀ w ∈ wsY Y, w ∈ WS := fun w hw => by
  rcases List.mem_cons.mp hw with rfl | hw
  · exact wc
  · exact hw
/-- what a call site shows of the callee: its words, its number of arguments, its room -/
def CS (Y Y' : MR) (n : Nat) : Prop := Cond.initialized Y'.1.cls ∈ WS ∧ Cond.code Y'.1 Y'.2.1 Y'.2.2.1 Y'.2.2.2.1 ∈ WS ∧ (Y'.1.cls ≠ "java/lang/invoke/MethodHandle" ∧ Y'.1.cls ≠ "java/lang/invoke/VarHandle" ∧ (parseMethodDescriptor Y'.1.desc).map (fun d => d.parameters.length) = some n) ∧ (Y'.2.2.2.2.1 + 1 ≤ Y.2.2.2.2.1 ∧ 8 + (Y'.2.2.1 + 11) + Y'.2.2.2.2.2 ≤ Y.2.2.2.2.2)
section CC
variable {sh : List Descr} {l : Launch} {D : va_G} {ad : Nat → Nat} {ca : Nat → ClassId} {Y Y' : MR} {pc index : Nat} {L : List (Option PV)} {st0 rest : List PV} {as : List PV} {μ μ1 μ' : Mem} {r r1 : Option PV}
theorem va_A_wd {sh : List Descr} {ad : Nat → Nat} {ca : Nat → ClassId} {μ : Mem} {A : Nat → Prop} {s : State} {H : Heap} {locs : List Loc} (hD : va_D A (wd sh ad ca μ)) (hS : va_S A s.heap H locs) (hA : ∀ q : Nat, s.heap.size ≤ q → A q) : ∀ q, va_A (wd sh ad ca μ) H.size q → A q := by
  intro q h
  rcases h with ⟨k, e, h⟩ | h
  · exact hD.2 k _ h
  · exact hA q (Nat.le_trans hS.1 h)
theorem va_D_mem {sh : List Descr} {ad : Nat → Nat} {ca : Nat → ClassId} {μ μ1 : Mem} {A B : Nat → Prop} (hD : va_D A (wd sh ad ca μ1)) (hAB : ∀ q, A q → B q) : va_D B (wd sh ad ca μ1) := hD.weaken (fun _ _ _ h => hAB _ h)
theorem pcc_of {A : Nat → Prop} {s U : State} {H : Heap} {locs : List Loc} (hU : U.heap = H) (hW : s.WarmedH U.vm) (hP : va_P D vwCl (wd sh ad ca μ) H) (hK : va_K D vwCl (tysC ca) s) (hD : va_D A (wd sh ad ca μ)) (hS : va_S A s.heap H locs) (hSF : SF ad A s s.heap) (hA : ∀ q : Nat, s.heap.size ≤ q → A q) (hM : RM μ) (hR : RS as) : Pcc sh D ad ca as μ H.size (as.map (cv ad)).toArray U := by
  subst hU
  exact ⟨rfl, rfl, hP, va_K.moved hW.alike hK, va_D_mem (μ := μ) hD (fun _ _ => trivial), hSF.move hS hW (va_A_wd hD hS hA), hM, hR⟩
/-- behind a call, by what it answers -/
theorem G.back {p : Program} {e : Env} {s : State} {m : MethodId} {args : Array Value} {below : List Frame} {meth : Method} {c : Code} {H : Heap} {ls : Array Slot} {locs : List Loc} {A : Nat → Prop} {a : Array Value}
    (E : Ent ad D ca Y p s m args meth c A) (hP : va_P D vwCl (wd sh ad ca μ) H) (hD : va_D A (wd sh ad ca μ)) (hS : va_S A s.heap H locs) (hL : Lv ad Y.2.2.1 L ls) (hR : RS rest)
    (hr : va_Run p l e (rmY Y) s m args below meth c H locs 0 0 0 0 (F0 m pc ls (st0.map (cv ad))) (rest.map (cv ad)) (QQ sh D ad ca r1 μ1 (va_A (wd sh ad ca μ) H.size) a) (va_A (wd sh ad ca μ) H.size))
    (kk : G sh l D ad ca Y (pc + 3) L (r1.toList ++ rest) μ1 r μ') : W p l e (rmY Y) s m args below meth c H locs 0 0 (MQ below (QQ sh D ad ca r μ' A) args s 0 0 A) (F0 m pc ls (st0.map (cv ad))) := by
  have hAA := va_A_wd (ca := ca) (μ := μ) hD hS E.2.2.2.2.2.2.2.2.2
  match r1, hr, kk with
  | none, hr, kk =>
    refine va_callv (a := a) hr hS (fun q _ h => hAA q h) hAA (fun u t H1 locs1 ht hvm _ hB _ _ hS1 => ?_)
    subst ht
    exact kk p e s m args below meth c t.heap ls locs1 A E hB.1 (va_D_mem (μ := μ) hB.2.2.1 hAA) hS1 hB.2.2.2 hL hR
  | some (.inl x), hr, kk =>
    refine va_calli (a := a) hr hS (fun q _ h => hAA q h) hAA (fun v u t H1 locs1 ht hvm hp hB _ _ hS1 => ?_)
    subst ht
    obtain ⟨rfl, hx⟩ := hp
    exact kk p e s m args below meth c t.heap ls locs1 A E hB.1 (va_D_mem (μ := μ) hB.2.2.1 hAA) hS1 hB.2.2.2 hL (RS_cons hx hR)
  | some (.inr k), hr, kk =>
    refine va_callr (a := a) hr hS (fun q _ h => hAA q h) hAA (fun u ra t H1 locs1 ht hvm _ hB _ _ hS1 => ?_)
    subst ht
    obtain ⟨rfl, hB⟩ := hB
    exact kk p e s m args below meth c t.heap ls locs1 A E hB.1 (va_D_mem (μ := μ) hB.2.2.1 hAA) hS1 hB.2.2.2 hL (RS_cons trivial hR)
theorem RS_rev {a b : List PV} (h : RS (a.reverse ++ b)) : RS a := fun v hv => h v (List.mem_append_left _ (List.mem_reverse.mpr hv))
theorem RS_app {a b : List PV} (h : RS (a ++ b)) : RS b := fun v hv => h v (List.mem_append_right _ hv)
theorem G.callS (hM : GM sh l D ad ca Y' as μ r1 μ1) (cs : CS Y Y' as.length) (hst : st0 = as.reverse ++ rest) (hlen : rest.length ≤ 8) (wl : Cond.methodLink Y.1.cls index Y'.1 ∈ WS) (wst : Cond.static Y'.1 ∈ WS) (d : decode Y.2.1 pc = .ok (.invokestatic index, 3))
    (kk : G sh l D ad ca Y (pc + 3) L (r1.toList ++ rest) μ1 r μ') : G sh l D ad ca Y pc L st0 μ r μ' :=
  fun p e s m args below meth c H ls locs A E hP hD hS hMm hL hR => by
    obtain ⟨w1, w2, w3, w4⟩ := cs
    refine G.back (a := (as.map (cv ad)).toArray) E hP hD hS hL (RS_app (hst ▸ hR)) ?_ kk
    refine va_runS (Ts := WS) (As := as.map (cv ad)) (rest := rest.map (cv ad)) (n := as.length) (own := Y.1.cls) (index := index) (nL := Y.2.2.1) ⟨E.1, E.2.1, E.2.2.1, E.2.2.2.1, E.2.2.2.2.1⟩ (hM H.size)
      (va_cwS as.length E.2.2.2.2.1 (gin_ws (fun w hw => ?_)) rfl rfl rfl w3 w4) ⟨Pcc_blind _ _ _ _ _ _ _, fun U hU hW => pcc_of hU hW hP E.2.2.2.2.2.2.2.1 hD hS E.2.2.2.2.2.2.2.2.1 E.2.2.2.2.2.2.2.2.2 hMm (RS_rev (hst ▸ hR))⟩ rfl (by simp) hL.2.1.1 (by rw [hst, List.map_append, List.map_reverse]) (lv_room (by rw [cat_sum]; exact hlen)) d ⟨Nat.le_refl _, Nat.le_refl _⟩
    unfold va_wsS at hw
    rcases List.mem_append.mp hw with h | h
    · simp only [List.mem_cons, List.not_mem_nil, or_false] at h
      rcases h with rfl | rfl | rfl
      · exact wl
      · exact wst
      · exact w1
    · exact ws_sub w2 w h
theorem G.callSN {host : String} (hM : GM sh l D ad ca Y' as μ r1 μ1) (cs : CS Y Y' as.length) (hst : st0 = as.reverse ++ rest) (hlen : rest.length ≤ 8) (wl : Cond.methodLinkNest Y.1.cls index Y'.1 host ∈ NWS) (wst : Cond.static Y'.1 ∈ WS) (d : decode Y.2.1 pc = .ok (.invokestatic index, 3))
    (kk : G sh l D ad ca Y (pc + 3) L (r1.toList ++ rest) μ1 r μ') : G sh l D ad ca Y pc L st0 μ r μ' :=
  fun p e s m args below meth c H ls locs A E hP hD hS hMm hL hR => by
    obtain ⟨w1, w2, w3, w4⟩ := cs
    refine G.back (a := (as.map (cv ad)).toArray) E hP hD hS hL (RS_app (hst ▸ hR)) ?_ kk
    refine va_runSN (Ts := WS) (As := as.map (cv ad)) (rest := rest.map (cv ad)) (n := as.length) (own := Y.1.cls) (index := index) (nL := Y.2.2.1) ⟨E.1, E.2.1, E.2.2.1, E.2.2.2.1, E.2.2.2.2.1⟩ (hM H.size)
      ⟨va_cnB as.length E.2.2.2.2.1 (gin_ws (ws_sub w2)) rfl rfl rfl (E.2.2.2.2.2.2.2.2.1.2.2 _ wl) (E.2.2.2.2.1 _ w1) w3 w4, E.2.2.2.2.1 _ wst, trivial⟩ ⟨Pcc_blind _ _ _ _ _ _ _, fun U hU hW => pcc_of hU hW hP E.2.2.2.2.2.2.2.1 hD hS E.2.2.2.2.2.2.2.2.1 E.2.2.2.2.2.2.2.2.2 hMm (RS_rev (hst ▸ hR))⟩ rfl (by simp) hL.2.1.1 (by rw [hst, List.map_append, List.map_reverse]) (lv_room (by rw [cat_sum]; exact hlen)) d ⟨Nat.le_refl _, Nat.le_refl _⟩
theorem G.callV {b ci N : Nat} {C : String} {T : u_T} {ty : Nat → FieldType} {fs : List (Option Nat)} (hM : GM sh l D ad ca Y' (.inr b :: as) μ r1 μ1) (cs : CS Y Y' as.length) (ck : CK ci C T N ty) (hs : sh[b]? = some (.inl (ci, fs))) (hC : Y'.1.cls = C) (hst : st0 = as.reverse ++ .inr b :: rest) (hlen : rest.length ≤ 8) (wl : Cond.methodLink Y.1.cls index Y'.1 ∈ WS) (wi : Cond.instanceMethod Y'.1 ∈ WS) (wse : Cond.selects Y'.1.cls Y'.1 Y'.1 ∈ WS) (d : decode Y.2.1 pc = .ok (.invokevirtual index, 3))
    (kk : G sh l D ad ca Y (pc + 3) L (r1.toList ++ rest) μ1 r μ') : G sh l D ad ca Y pc L st0 μ r μ' :=
  fun p e s m args below meth c H ls locs A E hP hD hS hMm hL hR => by
    obtain ⟨w1, w2, w3, w4⟩ := cs
    subst hC
    refine G.back (a := (Value.ref (ad b) :: as.map (cv ad)).toArray) E hP hD hS hL (RS_tl (RS_app (hst ▸ hR))) ?_ kk
    refine va_runV (Ts := WS) (C := Y'.1.cls) (b := ad b) (As := as.map (cv ad)) (rest := rest.map (cv ad)) (n := as.length) (own := Y.1.cls) (index := index) (nL := Y.2.2.1) ⟨E.1, E.2.1, E.2.2.1, E.2.2.2.1, E.2.2.2.2.1⟩ (hM H.size)
      (cwV as.length E.2.2.2.2.1 (gin_ws (fun w hw => ?_)) rfl rfl rfl ⟨rfl, w3⟩ w4) ⟨Pcc_blind _ _ _ _ _ _ _, va_recv E.2.2.2.2.2.2.2.1 hP ck.1 (wd_get hs), fun U hU hW => pcc_of (as := .inr b :: as) hU hW hP E.2.2.2.2.2.2.2.1 hD hS E.2.2.2.2.2.2.2.2.1 E.2.2.2.2.2.2.2.2.2 hMm (RS_cons trivial (RS_rev (hst ▸ hR)))⟩ rfl (by simp) hL.2.1.1 (by rw [hst, List.map_append, List.map_reverse]; rfl) (lv_room (by rw [cat_sum]; exact hlen)) d ⟨Nat.le_refl _, Nat.le_refl _⟩
    unfold wsV at hw
    rcases List.mem_append.mp hw with h | h
    · simp only [List.mem_cons, List.not_mem_nil, or_false] at h
      rcases h with rfl | rfl | rfl | rfl
      · exact wl
      · exact wi
      · exact wse
      · exact w1
    · exact ws_sub w2 w h
end CC
