section G2
variable {sh : List Descr} {l : Launch} {D : va_G} {ad : Nat → Nat} {ca : Nat → ClassId} {Y : MR} {pc : Nat} {L : List (Option PV)} {st : List PV} {μ μ' : Mem} {r : Option PV}
theorem G.putIN {ci N k index : Nat} {C host : String} {T : u_T} {ty : Nat → FieldType} {fs : List (Option Nat)} {x : Int} (ck : CK ci C T N ty) (hs : sh[k]? = some (.inl (ci, fs))) (j : Nat) (hf : fs[j]? = some none) (hj : j < N) (hl : Cond.fieldLinkNest Y.1.cls index (T j).1 (T j).2.1 (T j).2.2.1 host ∈ NWS) (hfin : (T j).2.2.2 = false) (hn : narrow (ty j) (.int (Int32.ofInt x)) = .int (Int32.ofInt x)) (hfit : fits (ty j) (.int (Int32.ofInt x)) = true) (d : decode Y.2.1 pc = .ok (.putfield index, 3))
    (kk : G sh l D ad ca Y (pc + 3) L st (mst μ k j x) r μ') : G sh l D ad ca Y pc L (.inl x :: .inr k :: st) μ r μ' :=
  fun p e s m args below meth c H ls locs A E hP hD hS hM hL hR => va_putN (D := D) E.1 E.2.1 (Ts := WS) E.2.2.2.2.1 ck.2.1 ty ck.2.2.1 ck.2.2.2 E.2.2.2.1 E.2.2.2.2.2.2.2.1 hP hD hS k (wd_get hs) ck.1 j hj (va_Nw.use rfl (E.2.2.2.2.2.2.2.2.1.2.2 _ hl)) (fun _ h => h) hfin (ck.2.2.1 j hj) hn hfit (by rw [List.length_mapIdx]; exact (List.getElem?_eq_some_iff.mp hf).1) d
    (fun H1 locs1 hP1 hD1 hS1 => by
      have e1 := wd_fld (ad := ad) (ca := ca) (μ := μ) (x := x) hs hf
      replace hP1 := e1 ▸ hP1
      replace hD1 := e1 ▸ hD1
      exact kk p e s m args below meth c H1 ls locs1 A E hP1 hD1 hS1 (RM_mst hM k j (RS_hd hR)) hL (RS_tl (RS_tl hR)))
theorem G.getRN {ci N k k2 index : Nat} {C host : String} {T : u_T} {ty : Nat → FieldType} {fs : List (Option Nat)} (ck : CK ci C T N ty) (hs : sh[k]? = some (.inl (ci, fs))) (j : Nat) (hf : fs[j]? = some (some k2)) (hj : j < N) (hl : Cond.fieldLinkNest Y.1.cls index (T j).1 (T j).2.1 (T j).2.2.1 host ∈ NWS) (d : decode Y.2.1 pc = .ok (.getfield index, 3))
    (kk : G sh l D ad ca Y (pc + 3) L (.inr k2 :: st) μ r μ') : G sh l D ad ca Y pc L (.inr k :: st) μ r μ' :=
  fun p e s m args below meth c H ls locs A E hP hD hS hM hL hR => va_getN (D := D) E.1 E.2.1 (Ts := WS) E.2.2.2.2.1 ck.2.1 E.2.2.2.1 E.2.2.2.2.2.2.2.1 hP k (wd_get hs) ck.1 j hj (va_Nw.use rfl (E.2.2.2.2.2.2.2.2.1.2.2 _ hl)) (fun _ h => h) (v := .ref (ad k2)) (by rw [List.getElem?_mapIdx, hf]; rfl) d (kk p e s m args below meth c H ls locs A E hP hD hS hM hL (RS_cons trivial (RS_tl hR)))
theorem G.getINN {ci N k index : Nat} {C host : String} {T : u_T} {ty : Nat → FieldType} {fs : List (Option Nat)} (ck : CK ci C T N ty) (hs : sh[k]? = some (.inl (ci, fs))) (j : Nat) (hf : fs[j]? = some none) (hj : j < N) (hl : Cond.fieldLinkNest Y.1.cls index (T j).1 (T j).2.1 (T j).2.2.1 host ∈ NWS) (d : decode Y.2.1 pc = .ok (.getfield index, 3))
    (kk : G sh l D ad ca Y (pc + 3) L (.inl (μ k j) :: st) μ r μ') : G sh l D ad ca Y pc L (.inr k :: st) μ r μ' :=
  fun p e s m args below meth c H ls locs A E hP hD hS hM hL hR => va_getN (D := D) E.1 E.2.1 (Ts := WS) E.2.2.2.2.1 ck.2.1 E.2.2.2.1 E.2.2.2.2.2.2.2.1 hP k (wd_get hs) ck.1 j hj (va_Nw.use rfl (E.2.2.2.2.2.2.2.2.1.2.2 _ hl)) (fun _ h => h) (v := .int (Int32.ofInt (μ k j))) (by rw [List.getElem?_mapIdx, hf]; rfl) d (kk p e s m args below meth c H ls locs A E hP hD hS hM hL (RS_cons (hM k j) (RS_tl hR)))
theorem G.iald {k n : Nat} {i : Int} (hs : sh[k]? = some (.inr (.inl (0, n)))) (h : 0 ≤ i ∧ i < n) (d : decode Y.2.1 pc = .ok (.iaload, 1))
    (kk : G sh l D ad ca Y (pc + 1) L (.inl (μ k i.toNat) :: st) μ r μ') : G sh l D ad ca Y pc L (.inl i :: .inr k :: st) μ r μ' :=
  fun p e s m args below meth c H ls locs A E hP hD hS hM hL hR => va_iald E.1 E.2.1 E.2.2.2.2.2.2.2.1 hP k 0 (wd_get hs) rfl (vin_of (RS_hd hR) h.1 h.2) d (by rw [oi_clamp (RS_hd hR)]; exact kk p e s m args below meth c H ls locs A E hP hD hS hM hL (RS_cons (hM k _) (RS_tl (RS_tl hR))))
theorem G.bald {k n : Nat} {i : Int} (hs : sh[k]? = some (.inr (.inl (1, n)))) (h : 0 ≤ i ∧ i < n) (d : decode Y.2.1 pc = .ok (.baload, 1))
    (kk : G sh l D ad ca Y (pc + 1) L (.inl (μ k i.toNat) :: st) μ r μ') : G sh l D ad ca Y pc L (.inl i :: .inr k :: st) μ r μ' :=
  fun p e s m args below meth c H ls locs A E hP hD hS hM hL hR => va_bald E.1 E.2.1 E.2.2.2.2.2.2.2.1 hP k 1 (wd_get hs) rfl (vin_of (RS_hd hR) h.1 h.2) d (by rw [oi_clamp (RS_hd hR)]; exact kk p e s m args below meth c H ls locs A E hP hD hS hM hL (RS_cons (hM k _) (RS_tl (RS_tl hR))))
theorem G.sald {k n : Nat} {i : Int} (hs : sh[k]? = some (.inr (.inl (2, n)))) (h : 0 ≤ i ∧ i < n) (d : decode Y.2.1 pc = .ok (.saload, 1))
    (kk : G sh l D ad ca Y (pc + 1) L (.inl (μ k i.toNat) :: st) μ r μ') : G sh l D ad ca Y pc L (.inl i :: .inr k :: st) μ r μ' :=
  fun p e s m args below meth c H ls locs A E hP hD hS hM hL hR => va_sald E.1 E.2.1 E.2.2.2.2.2.2.2.1 hP k 2 (wd_get hs) rfl (vin_of (RS_hd hR) h.1 h.2) d (by rw [oi_clamp (RS_hd hR)]; exact kk p e s m args below meth c H ls locs A E hP hD hS hM hL (RS_cons (hM k _) (RS_tl (RS_tl hR))))
theorem G.cald {k n : Nat} {i : Int} (hs : sh[k]? = some (.inr (.inl (3, n)))) (h : 0 ≤ i ∧ i < n) (d : decode Y.2.1 pc = .ok (.caload, 1))
    (kk : G sh l D ad ca Y (pc + 1) L (.inl (μ k i.toNat) :: st) μ r μ') : G sh l D ad ca Y pc L (.inl i :: .inr k :: st) μ r μ' :=
  fun p e s m args below meth c H ls locs A E hP hD hS hM hL hR => va_cald E.1 E.2.1 E.2.2.2.2.2.2.2.1 hP k 3 (wd_get hs) rfl (vin_of (RS_hd hR) h.1 h.2) d (by rw [oi_clamp (RS_hd hR)]; exact kk p e s m args below meth c H ls locs A E hP hD hS hM hL (RS_cons (hM k _) (RS_tl (RS_tl hR))))
theorem G.iast {k n : Nat} {i x : Int} (hs : sh[k]? = some (.inr (.inl (0, n)))) (h : 0 ≤ i ∧ i < n) (d : decode Y.2.1 pc = .ok (.iastore, 1))
    (kk : G sh l D ad ca Y (pc + 1) L st (mst μ k i.toNat x) r μ') : G sh l D ad ca Y pc L (.inl x :: .inl i :: .inr k :: st) μ r μ' :=
  fun p e s m args below meth c H ls locs A E hP hD hS hM hL hR => va_iast E.1 E.2.1 E.2.2.2.2.2.2.2.1 hP hD hS k 0 (wd_get hs) rfl (vin_of (RS_hd (RS_tl hR)) h.1 h.2) d
    (fun H1 locs1 hP1 hD1 hS1 => by
      rw [oi_clamp (RS_hd (RS_tl hR))] at hP1 hD1
      have e1 := wd_arr (ad := ad) (ca := ca) (μ := μ) (i := i.toNat) (x := x) hs rfl
      replace hP1 := e1 ▸ hP1
      replace hD1 := e1 ▸ hD1
      exact kk p e s m args below meth c H1 ls locs1 A E hP1 hD1 hS1 (RM_mst hM k _ (RS_hd hR)) hL (RS_tl (RS_tl (RS_tl hR))))
theorem nar8 (x : Int) : vp_nar .byte (Int32.ofInt x) = Int32.ofInt (n8 x) := by rw [vp_nar_byte, n8_def, Int32.ofInt_toInt]
theorem nar16 (x : Int) : vp_nar .short (Int32.ofInt x) = Int32.ofInt (n16 x) := by rw [vp_nar_short, n16_def, Int32.ofInt_toInt]
theorem narz (x : Int) : vp_nar .boolean (Int32.ofInt x) = Int32.ofInt (nzz x) := by rw [nzz_def, Int32.ofInt_toInt]; rfl
theorem ncc_ex : ∃ f : Int → Int, ∀ x, f x = (Int32.ofInt x).toUInt32.toUInt16.toUInt32.toInt32.toInt := ⟨_, fun _ => rfl⟩
noncomputable def ncc : Int → Int := Classical.choose ncc_ex
theorem ncc_def (x : Int) : ncc x = (Int32.ofInt x).toUInt32.toUInt16.toUInt32.toInt32.toInt := Classical.choose_spec ncc_ex x
theorem narc (x : Int) : vp_nar .char (Int32.ofInt x) = Int32.ofInt (ncc x) := by rw [vp_nar_char, ncc_def, Int32.ofInt_toInt]
theorem G.bast {k n : Nat} {i x : Int} (hs : sh[k]? = some (.inr (.inl (1, n)))) (h : 0 ≤ i ∧ i < n) (d : decode Y.2.1 pc = .ok (.bastore, 1))
    (kk : G sh l D ad ca Y (pc + 1) L st (mst μ k i.toNat (n8 x)) r μ') : G sh l D ad ca Y pc L (.inl x :: .inl i :: .inr k :: st) μ r μ' :=
  fun p e s m args below meth c H ls locs A E hP hD hS hM hL hR => va_bast E.1 E.2.1 E.2.2.2.2.2.2.2.1 hP hD hS k 1 (wd_get hs) rfl (vin_of (RS_hd (RS_tl hR)) h.1 h.2) d
    (fun H1 locs1 hP1 hD1 hS1 => by
      rw [oi_clamp (RS_hd (RS_tl hR))] at hP1 hD1
      have e1 := wd_arr (ad := ad) (ca := ca) (μ := μ) (i := i.toNat) (x := n8 x) hs (nar8 x)
      replace hP1 := e1 ▸ hP1
      replace hD1 := e1 ▸ hD1
      exact kk p e s m args below meth c H1 ls locs1 A E hP1 hD1 hS1 (RM_mst hM k _ (by rw [n8_def]; exact to_in _)) hL (RS_tl (RS_tl (RS_tl hR))))
theorem G.sast {k n : Nat} {i x : Int} (hs : sh[k]? = some (.inr (.inl (2, n)))) (h : 0 ≤ i ∧ i < n) (d : decode Y.2.1 pc = .ok (.sastore, 1))
    (kk : G sh l D ad ca Y (pc + 1) L st (mst μ k i.toNat (n16 x)) r μ') : G sh l D ad ca Y pc L (.inl x :: .inl i :: .inr k :: st) μ r μ' :=
  fun p e s m args below meth c H ls locs A E hP hD hS hM hL hR => va_sast E.1 E.2.1 E.2.2.2.2.2.2.2.1 hP hD hS k 2 (wd_get hs) rfl (vin_of (RS_hd (RS_tl hR)) h.1 h.2) d
    (fun H1 locs1 hP1 hD1 hS1 => by
      rw [oi_clamp (RS_hd (RS_tl hR))] at hP1 hD1
      have e1 := wd_arr (ad := ad) (ca := ca) (μ := μ) (i := i.toNat) (x := n16 x) hs (nar16 x)
      replace hP1 := e1 ▸ hP1
      replace hD1 := e1 ▸ hD1
      exact kk p e s m args below meth c H1 ls locs1 A E hP1 hD1 hS1 (RM_mst hM k _ (by rw [n16_def]; exact to_in _)) hL (RS_tl (RS_tl (RS_tl hR))))
theorem G.cast {k n : Nat} {i x : Int} (hs : sh[k]? = some (.inr (.inl (3, n)))) (h : 0 ≤ i ∧ i < n) (d : decode Y.2.1 pc = .ok (.castore, 1))
    (kk : G sh l D ad ca Y (pc + 1) L st (mst μ k i.toNat (ncc x)) r μ') : G sh l D ad ca Y pc L (.inl x :: .inl i :: .inr k :: st) μ r μ' :=
  fun p e s m args below meth c H ls locs A E hP hD hS hM hL hR => va_cast E.1 E.2.1 E.2.2.2.2.2.2.2.1 hP hD hS k 3 (wd_get hs) rfl (vin_of (RS_hd (RS_tl hR)) h.1 h.2) d
    (fun H1 locs1 hP1 hD1 hS1 => by
      rw [oi_clamp (RS_hd (RS_tl hR))] at hP1 hD1
      have e1 := wd_arr (ad := ad) (ca := ca) (μ := μ) (i := i.toNat) (x := ncc x) hs (narc x)
      replace hP1 := e1 ▸ hP1
      replace hD1 := e1 ▸ hD1
      exact kk p e s m args below meth c H1 ls locs1 A E hP1 hD1 hS1 (RM_mst hM k _ (by rw [ncc_def]; exact to_in _)) hL (RS_tl (RS_tl (RS_tl hR))))
theorem G.aald {k : Nat} {i : Int} {rs : List Nat} (hs : sh[k]? = some (.inr (.inr rs))) (h : 0 ≤ i ∧ i < rs.length) (d : decode Y.2.1 pc = .ok (.aaload, 1))
    (kk : G sh l D ad ca Y (pc + 1) L (.inr (rs.getD i.toNat 0) :: st) μ r μ') : G sh l D ad ca Y pc L (.inl i :: .inr k :: st) μ r μ' :=
  fun p e s m args below meth c H ls locs A E hP hD hS hM hL hR => va_aldq E.1 E.2.1 E.2.2.2.2.2.2.2.1 hP k 5 (wd_get hs) rfl (vin_of (RS_hd hR) h.1 h.2) d (by
    have h2 := kk p e s m args below meth c H ls locs A E hP hD hS hM hL (RS_cons trivial (RS_tl (RS_tl hR)))
    rw [oi_clamp (RS_hd hR)]
    exact h2)
/-- the static table of powers -/
theorem G.pow {index : Nat} (d : decode Y.2.1 pc = .ok (.getstatic index, 3)) (hl : Cond.fieldLink Y.1.cls index "SpiceThrees" "POWERS" "[I" ∈ WS) (k : G sh l D ad ca Y (pc + 3) L (.inr 1000 :: st) μ r μ') : G sh l D ad ca Y pc L st μ r μ' :=
  fun p e s m args below meth c H ls locs A E hP hD hS hM hL hR => va_gets E.1 E.2.1 E.2.2.2.2.2.2.2.2.1.1 hS E.2.2.2.1 (E.2.2.2.2.1 _ hl) (fun _ h => h) d (k p e s m args below meth c H ls locs A E hP hD hS hM hL (RS_cons trivial hR))
theorem G.powN {index : Nat} {host : String} (d : decode Y.2.1 pc = .ok (.getstatic index, 3)) (hl : Cond.fieldLinkNest Y.1.cls index "SpiceThrees" "POWERS" "[I" host ∈ NWS) (k : G sh l D ad ca Y (pc + 3) L (.inr 1000 :: st) μ r μ') : G sh l D ad ca Y pc L st μ r μ' :=
  fun p e s m args below meth c H ls locs A E hP hD hS hM hL hR => va_getsN E.1 E.2.1 E.2.2.2.2.2.2.2.2.1.1 hS E.2.2.2.1 (va_Nw.use rfl (E.2.2.2.2.2.2.2.2.1.2.2 _ hl)) (fun _ h => h) d (k p e s m args below meth c H ls locs A E hP hD hS hM hL (RS_cons trivial hR))
theorem pow3_in (j : Nat) : inR (pow3 j) := by
  unfold pow3
  split <;> decide
theorem G.powld {i : Int} (h : 0 ≤ i ∧ i < 9) (d : decode Y.2.1 pc = .ok (.iaload, 1)) (k : G sh l D ad ca Y (pc + 1) L (.inl (pow3 i.toNat) :: st) μ r μ') : G sh l D ad ca Y pc L (.inl i :: .inr 1000 :: st) μ r μ' :=
  fun p e s m args below meth c H ls locs A E hP hD hS hM hL hR => va_ti E.1 E.2.1 E.2.2.2.2.2.2.2.2.1.2.1 hS (vin_of (RS_hd hR) h.1 h.2) (v := .int (Int32.ofInt (pow3 i.toNat))) (by show Value.int (Int32.ofInt (pow3 (Int32.ofInt i).toNatClampNeg)) = _; rw [oi_clamp (RS_hd hR)]) d (k p e s m args below meth c H ls locs A E hP hD hS hM hL (RS_cons (pow3_in _) (RS_tl (RS_tl hR))))
/-- System.arraycopy over rows of ints -/
def mcp (μ : Mem) (k0 k1 s d n : Nat) : Mem := fun a b => if a = k1 ∧ d ≤ b ∧ b < d + n then μ k0 (s + (b - d)) else μ a b
theorem RM_mcp {μ : Mem} (h : RM μ) (k0 k1 s d n : Nat) : RM (mcp μ k0 k1 s d n) := fun a b => by
  unfold mcp
  split
  · exact h _ _
  · exact h _ _
theorem wd_cp {k0 k1 n0 n1 s d n : Nat} (h1 : sh[k1]? = some (.inr (.inl (0, n1)))) : (wd sh ad ca μ).set k1 (ad k1, .inl (ca 0, n1, .inl (va_cpy (fun j => Int32.ofInt (μ k0 j)) (fun j => Int32.ofInt (μ k1 j)) s d n))) = wd sh ad ca (mcp μ k0 k1 s d n) := by
  refine wd_ext h1 ?_ (fun a ha => by funext b; simp [mcp, ha])
  show _ = Sum.inl (ca 0, n1, Sum.inl _)
  congr 4
  funext j
  simp only [va_cpy, mcp]
  by_cases hj : d ≤ j ∧ j < d + n
  · simp [hj]
  · rw [if_neg hj, if_neg (fun z => hj z.2)]
theorem G.copy {index k0 k1 n0 n1 : Nat} {sp dp n : Int} (w1 : Cond.methodLink Y.1.cls index arraycopyName ∈ WS) (w2 : Cond.native arraycopyName ∈ WS) (w3 : Cond.static arraycopyName ∈ WS) (w4 : Cond.initialized "java/lang/System" ∈ WS) (hs0 : sh[k0]? = some (.inr (.inl (0, n0)))) (hs1 : sh[k1]? = some (.inr (.inl (0, n1))))
    (h1 : 0 ≤ sp) (h2 : 0 ≤ dp) (h3 : 0 ≤ n) (h4 : sp + n ≤ n0) (h5 : dp + n ≤ n1) (hfr : 1 ≤ Y.2.2.2.2.1) (hlo : st.length + (nativeFrameWords "java/lang/System" "arraycopy" 5 + 11) ≤ Y.2.2.2.2.2) (d : decode Y.2.1 pc = .ok (.invokestatic index, 3))
    (kk : G sh l D ad ca Y (pc + 3) L st (mcp μ k0 k1 sp.toNat dp.toNat n.toNat) r μ') : G sh l D ad ca Y pc L (.inl n :: .inl dp :: .inr k1 :: .inl sp :: .inr k0 :: st) μ r μ' :=
  fun p e s m args below meth c H ls locs A E hP hD hS hM hL hR => by
    have rn := RS_hd hR
    have rd := RS_hd (RS_tl hR)
    have rs := RS_hd (RS_tl (RS_tl (RS_tl hR)))
    have z0 : inR 0 := by decide
    refine va_copyi E.1 E.2.1 (E.2.2.1.trans hL.2.1.1.symm) E.2.2.2.1 (E.2.2.2.2.1 _ w1) (E.2.2.2.2.1 _ w2) (E.2.2.2.2.1 _ w3) (E.2.2.2.2.1 _ w4) E.2.2.2.2.2.2.2.1 hP hD hS k0 k1 0 0 (wd_get hs0) (wd_get hs1) rfl rfl rfl (sp := Int32.ofInt sp) (dp := Int32.ofInt dp) (n := Int32.ofInt n)
      (fun h => by have h' : Int32.ofInt sp < Int32.ofInt 0 := h; rw [oi_lt rs z0] at h'; omega)
      (fun h => by have h' : Int32.ofInt dp < Int32.ofInt 0 := h; rw [oi_lt rd z0] at h'; omega)
      (fun h => by have h' : Int32.ofInt n < Int32.ofInt 0 := h; rw [oi_lt rn z0] at h'; omega)
      (by rw [oi_clamp rs, oi_clamp rn]; omega) (by rw [oi_clamp rd, oi_clamp rn]; omega) (fun i hi => rfl) hfr (by rw [cat_sum]; exact hlo) d (fun H1 locs1 hP1 hD1 hS1 => ?_)
    rw [oi_clamp rs, oi_clamp rd, oi_clamp rn] at hP1 hD1
    have e1 := wd_cp (sh := sh) (ad := ad) (ca := ca) (μ := μ) (k0 := k0) (n0 := n0) (s := sp.toNat) (d := dp.toNat) (n := n.toNat) hs1
    replace hP1 := e1 ▸ hP1
    replace hD1 := e1 ▸ hD1
    exact kk p e s m args below meth c H1 ls locs1 A E hP1 hD1 hS1 (RM_mcp hM _ _ _ _ _) hL (RS_tl (RS_tl (RS_tl (RS_tl (RS_tl hR)))))
end G2
