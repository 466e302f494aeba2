/-! numbers: whole numbers in the range of an int, and what the machine's int is of each -/
abbrev PV : Type := Int ⊕ Nat
abbrev Mem : Type := Nat → Nat → Int
theorem w32_ex : ∃ f : Int → Int, ∀ x, f x = (x + 2147483648) % 4294967296 - 2147483648 := ⟨_, fun _ => rfl⟩
noncomputable def w32 : Int → Int := Classical.choose w32_ex
theorem w32_def (x : Int) : w32 x = (x + 2147483648) % 4294967296 - 2147483648 := Classical.choose_spec w32_ex x
abbrev inR (x : Int) : Prop := -2147483648 ≤ x ∧ x < 2147483648
theorem w32_in (x : Int) : inR (w32 x) := by rw [w32_def]; unfold inR; omega
theorem w32_id {x : Int} (h : inR x) : w32 x = x := by unfold inR at h; rw [w32_def]; omega
theorem w32_bmod (x : Int) : w32 x = x.bmod 4294967296 := by
  rw [w32_def]
  unfold Int.bmod
  dsimp only
  split <;> omega
theorem oi_to (x : Int) : (Int32.ofInt x).toInt = w32 x := by
  rw [Int32.toInt_ofInt, w32_bmod]
theorem oi_toR {x : Int} (h : inR x) : (Int32.ofInt x).toInt = x := by rw [oi_to, w32_id h]
theorem to_in (z : Int32) : inR z.toInt := by
  have h := oi_to z.toInt
  rw [Int32.ofInt_toInt] at h
  rw [h]
  exact w32_in _
theorem oi_w32 (x : Int) : Int32.ofInt (w32 x) = Int32.ofInt x := by
  apply Int32.toInt_inj.mp
  rw [oi_to, oi_to, w32_id (w32_in x)]
theorem oi_inj {x y : Int} (hx : inR x) (hy : inR y) : Int32.ofInt x = Int32.ofInt y ↔ x = y := by
  refine ⟨fun h => ?_, fun h => by rw [h]⟩
  have h1 := congrArg Int32.toInt h
  rwa [oi_toR hx, oi_toR hy] at h1
theorem oi_lt {x y : Int} (hx : inR x) (hy : inR y) : Int32.ofInt x < Int32.ofInt y ↔ x < y := by
  rw [Int32.lt_iff_toInt_lt, oi_toR hx, oi_toR hy]
theorem oi_le {x y : Int} (hx : inR x) (hy : inR y) : Int32.ofInt x ≤ Int32.ofInt y ↔ x ≤ y := by
  rw [Int32.le_iff_toInt_le, oi_toR hx, oi_toR hy]
theorem oi_clamp {x : Int} (hx : inR x) : (Int32.ofInt x).toNatClampNeg = x.toNat := by
  show (Int32.ofInt x).toInt.toNat = _
  rw [oi_toR hx]
theorem oi_div {x y : Int} (hx : inR x) (hy : inR y) : Int32.ofInt x / Int32.ofInt y = Int32.ofInt (w32 (x.tdiv y)) := by
  apply Int32.toInt_inj.mp
  rw [Int32.toInt_div, oi_toR hx, oi_toR hy, oi_to, w32_id (w32_in _), w32_bmod]
theorem oi_rem {x y : Int} (hx : inR x) (hy : inR y) : Int32.ofInt x - Int32.ofInt x / Int32.ofInt y * Int32.ofInt y = Int32.ofInt (x.tmod y) := by
  rw [oi_div hx hy, oi_w32, ← Int32.ofInt_mul, ← Int32.ofInt_sub, Int.tmod_def, Int.mul_comm]
theorem tmod_in {x y : Int} (hx : inR x) : inR (x.tmod y) := by
  have h : (x.tmod y).natAbs ≤ x.natAbs := by
    rw [Int.natAbs_tmod]
    exact Nat.mod_le _ _
  unfold inR at *
  rcases Int.le_total 0 x with h0 | h0
  · have := Int.tmod_nonneg y h0
    omega
  · have h1 : 0 ≤ (-x).tmod y := Int.tmod_nonneg y (by omega)
    rw [Int.neg_tmod] at h1
    omega
theorem n8_ex : ∃ f : Int → Int, ∀ x, f x = (Int32.ofInt x).toInt8.toInt32.toInt := ⟨_, fun _ => rfl⟩
noncomputable def n8 : Int → Int := Classical.choose n8_ex
theorem n8_def (x : Int) : n8 x = (Int32.ofInt x).toInt8.toInt32.toInt := Classical.choose_spec n8_ex x
theorem n16_ex : ∃ f : Int → Int, ∀ x, f x = (Int32.ofInt x).toInt16.toInt32.toInt := ⟨_, fun _ => rfl⟩
noncomputable def n16 : Int → Int := Classical.choose n16_ex
theorem n16_def (x : Int) : n16 x = (Int32.ofInt x).toInt16.toInt32.toInt := Classical.choose_spec n16_ex x
theorem nch_ex : ∃ f : Int → Int, ∀ x, f x = ((Int32.ofInt x).toUInt32 % 65536).toInt32.toInt := ⟨_, fun _ => rfl⟩
noncomputable def nch : Int → Int := Classical.choose nch_ex
theorem nch_def (x : Int) : nch x = ((Int32.ofInt x).toUInt32 % 65536).toInt32.toInt := Classical.choose_spec nch_ex x
theorem nzz_ex : ∃ f : Int → Int, ∀ x, f x = (Int32.ofInt x &&& 1).toInt := ⟨_, fun _ => rfl⟩
noncomputable def nzz : Int → Int := Classical.choose nzz_ex
theorem nzz_def (x : Int) : nzz x = (Int32.ofInt x &&& 1).toInt := Classical.choose_spec nzz_ex x
def and32 (x y : Int) : Int := (Int32.ofInt x &&& Int32.ofInt y).toInt
def or32 (x y : Int) : Int := (Int32.ofInt x ||| Int32.ofInt y).toInt
def shl32 (x y : Int) : Int := (Int32.ofInt x <<< (Int32.ofInt y &&& 31)).toInt
def ushr32 (x y : Int) : Int := (((Int32.ofInt x).toUInt32 >>> ((Int32.ofInt y).toUInt32 &&& Int32.toUInt32 31)).toInt32).toInt
theorem vin_of {i : Int} {n : Nat} (hR : inR i) (h0 : 0 ≤ i) (hn : i < n) : vp_in (Int32.ofInt i) n := by
  intro h
  rcases h with h | h
  · have h1 : Int32.ofInt i < Int32.ofInt 0 := h
    rw [oi_lt hR (by decide)] at h1
    omega
  · rw [oi_clamp hR] at h
    omega
/-! memory -/
def mst (μ : Mem) (k i : Nat) (v : Int) : Mem := fun a b => if a = k ∧ b = i then v else μ a b
def RM (μ : Mem) : Prop := ∀ k j, inR (μ k j)
theorem RM_mst {μ : Mem} (h : RM μ) (k i : Nat) {v : Int} (hv : inR v) : RM (mst μ k i v) := by
  intro a b
  unfold mst
  split
  · exact hv
  · exact h a b
abbrev Descr : Type := (Nat × List (Option Nat)) ⊕ ((Nat × Nat) ⊕ List Nat)
def fv (ad : Nat → Nat) (μ : Nat → Int) (j : Nat) (r : Option Nat) : Value := match r with
  | some k => .ref (ad k)
  | none => .int (Int32.ofInt (μ j))
def cellE (ad : Nat → Nat) (ca : Nat → ClassId) (μ : Nat → Int) (d : Descr) : va_E := match d with
  | .inl o => .inr (o.1, o.2.mapIdx (fv ad μ))
  | .inr (.inl a) => .inl (ca a.1, a.2, .inl fun j => Int32.ofInt (μ j))
  | .inr (.inr rs) => .inl (ca 5, rs.length, .inr (.inr (.inr (.inr fun j => some (ad (rs.getD j 0))))))
def wd (sh : List Descr) (ad : Nat → Nat) (ca : Nat → ClassId) (μ : Mem) : va_W := sh.mapIdx fun k d => (ad k, cellE ad ca (μ k) d)
theorem wd_get {sh : List Descr} {ad : Nat → Nat} {ca : Nat → ClassId} {μ : Mem} {k : Nat} {d : Descr} (h : sh[k]? = some d) : (wd sh ad ca μ)[k]? = some (ad k, cellE ad ca (μ k) d) := by
  simp [wd, List.getElem?_mapIdx, h]
theorem wd_getI {sh : List Descr} {ad : Nat → Nat} {ca : Nat → ClassId} {μ : Mem} {k : Nat} {q : Nat × va_E} (h : (wd sh ad ca μ)[k]? = some q) : ∃ d, sh[k]? = some d ∧ q = (ad k, cellE ad ca (μ k) d) := by
  simp only [wd, List.getElem?_mapIdx] at h
  cases hd : sh[k]? with
  | none => rw [hd] at h; cases h
  | some d => rw [hd] at h; exact ⟨d, rfl, (Option.some.inj h).symm⟩
theorem wd_ext {sh : List Descr} {ad : Nat → Nat} {ca : Nat → ClassId} {μ μ' : Mem} {k : Nat} {d : Descr} {e : va_E} (h : sh[k]? = some d) (he : e = cellE ad ca (μ' k) d) (ho : ∀ a, a ≠ k → μ' a = μ a) : (wd sh ad ca μ).set k (ad k, e) = wd sh ad ca μ' := by
  apply List.ext_getElem?
  intro i
  have hk : k < (wd sh ad ca μ).length := (List.getElem?_eq_some_iff.mp (wd_get (ad := ad) (ca := ca) (μ := μ) h)).1
  by_cases hi : i = k
  · subst hi
    rw [List.getElem?_set_self hk, wd_get h, he]
  · rw [List.getElem?_set_ne (Ne.symm hi)]
    simp only [wd, List.getElem?_mapIdx, ho i hi]
theorem wd_fld {sh : List Descr} {ad : Nat → Nat} {ca : Nat → ClassId} {μ : Mem} {k ci j : Nat} {fs : List (Option Nat)} {x : Int} (h : sh[k]? = some (.inl (ci, fs))) (hf : fs[j]? = some none) : (wd sh ad ca μ).set k (ad k, .inr (ci, (fs.mapIdx (fv ad (μ k))).set j (.int (Int32.ofInt x)))) = wd sh ad ca (mst μ k j x) := by
  refine wd_ext h ?_ (fun a ha => by funext b; simp [mst, ha])
  show _ = Sum.inr (ci, _)
  congr 2
  apply List.ext_getElem?
  intro i
  by_cases hi : i = j
  · subst hi
    have hl : i < (fs.mapIdx (fv ad (μ k))).length := by
      rw [List.length_mapIdx]
      exact (List.getElem?_eq_some_iff.mp hf).1
    rw [List.getElem?_set_self hl, List.getElem?_mapIdx, hf]
    simp [fv, mst]
  · rw [List.getElem?_set_ne (Ne.symm hi), List.getElem?_mapIdx, List.getElem?_mapIdx]
    cases fs[i]? with
    | none => rfl
    | some r => cases r <;> simp [fv, mst, hi]
theorem wd_arr {sh : List Descr} {ad : Nat → Nat} {ca : Nat → ClassId} {μ : Mem} {k ti n i : Nat} {x : Int} {z : Int32} (h : sh[k]? = some (.inr (.inl (ti, n)))) (hz : z = Int32.ofInt x) : (wd sh ad ca μ).set k (ad k, .inl (ca ti, n, .inl (upd (fun j => Int32.ofInt (μ k j)) i z))) = wd sh ad ca (mst μ k i x) := by
  refine wd_ext h ?_ (fun a ha => by funext b; simp [mst, ha])
  show _ = Sum.inl (ca ti, n, Sum.inl _)
  congr 4
  funext j
  subst hz
  simp only [upd, mst]
  by_cases hj : j = i <;> simp [hj]
/-! frames -/
def cv (ad : Nat → Nat) (v : PV) : Value := match v with
  | .inl x => .int (Int32.ofInt x)
  | .inr k => .ref (ad k)
theorem cv_cat (ad : Nat → Nat) (v : PV) : (cv ad v).category = 1 := by cases v <;> rfl
def PR (v : PV) : Prop := match v with
  | .inl x => inR x
  | .inr _ => True
def RS (l : List PV) : Prop := ∀ v ∈ l, PR v
theorem RS_nil : RS [] := fun _ h => by cases h
theorem RS_cons {v : PV} {l : List PV} (h : PR v) (hl : RS l) : RS (v :: l) := fun w hw => by
  rcases List.mem_cons.mp hw with rfl | hw
  · exact h
  · exact hl w hw
theorem RS_tl {v : PV} {l : List PV} (h : RS (v :: l)) : RS l := fun w hw => h w (List.mem_cons_of_mem _ hw)
theorem RS_hd {v : PV} {l : List PV} (h : RS (v :: l)) : PR v := h v List.mem_cons_self
def lvl (ad : Nat → Nat) : List (Option PV) → Nat → List (Nat × Value)
  | [], _ => []
  | none :: L, i => lvl ad L (i + 1)
  | some v :: L, i => (i, cv ad v) :: lvl ad L (i + 1)
theorem lvl_mem {ad : Nat → Nat} : ∀ (L : List (Option PV)) (i j : Nat) (x : Value), (j, x) ∈ lvl ad L i ↔ ∃ v, i ≤ j ∧ L[j - i]? = some (some v) ∧ x = cv ad v := by
  intro L
  induction L with
  | nil => intro i j x; simp [lvl]
  | cons o L ih =>
    intro i j x
    cases o with
    | none =>
      simp only [lvl, ih]
      constructor
      · rintro ⟨v, h1, h2, h3⟩
        refine ⟨v, by omega, ?_, h3⟩
        have : j - i = (j - (i + 1)) + 1 := by omega
        rw [this, List.getElem?_cons_succ]; exact h2
      · rintro ⟨v, h1, h2, h3⟩
        by_cases e : j = i
        · subst e; simp at h2
        · have : j - i = (j - (i + 1)) + 1 := by omega
          rw [this, List.getElem?_cons_succ] at h2
          exact ⟨v, by omega, h2, h3⟩
    | some w =>
      simp only [lvl, List.mem_cons, Prod.mk.injEq, ih]
      constructor
      · rintro (⟨rfl, rfl⟩ | ⟨v, h1, h2, h3⟩)
        · exact ⟨w, by omega, by simp, rfl⟩
        · refine ⟨v, by omega, ?_, h3⟩
          have : j - i = (j - (i + 1)) + 1 := by omega
          rw [this, List.getElem?_cons_succ]; exact h2
      · rintro ⟨v, h1, h2, h3⟩
        by_cases e : j = i
        · subst e
          simp at h2
          subst h2
          exact Or.inl ⟨rfl, h3⟩
        · have : j - i = (j - (i + 1)) + 1 := by omega
          rw [this, List.getElem?_cons_succ] at h2
          exact Or.inr ⟨v, by omega, h2, h3⟩
def Lv (ad : Nat → Nat) (n : Nat) (L : List (Option PV)) (ls : Array Slot) : Prop := L.length = n ∧ lv_has ls n (lvl ad L 0) ∧ ∀ v, some v ∈ L → PR v
theorem Lv.get {ad : Nat → Nat} {n : Nat} {L : List (Option PV)} {ls : Array Slot} (h : Lv ad n L ls) {i : Nat} {v : PV} (hi : L[i]? = some (some v)) : ls[i]? = some (.val (cv ad v)) :=
  h.2.1.2.2 (i, cv ad v) ((lvl_mem L 0 i _).mpr ⟨v, Nat.zero_le _, by simpa using hi, rfl⟩)
theorem Lv.pr {ad : Nat → Nat} {n : Nat} {L : List (Option PV)} {ls : Array Slot} (h : Lv ad n L ls) {i : Nat} {v : PV} (hi : L[i]? = some (some v)) : PR v := h.2.2 v (List.mem_of_getElem? hi)
theorem Lv.idx {ad : Nat → Nat} {n : Nat} {L : List (Option PV)} {ls : Array Slot} (_h : Lv ad n L ls) {i : Nat} {v : PV} (hi : L[i]? = some (some v)) : ∃ k : Nat, (lvl ad L 0)[k]? = some (i, cv ad v) :=
  List.getElem?_of_mem ((lvl_mem L 0 i _).mpr ⟨v, Nat.zero_le _, by simpa using hi, rfl⟩)
theorem Lv.upd {ad : Nat → Nat} {n : Nat} {L : List (Option PV)} {ls ls' : Array Slot} {i : Nat} {v : PV} (h : Lv ad n L ls) (hv : PR v)
    (h' : lv_has ls' n ((i, cv ad v) :: (lvl ad L 0).filter (fun q => !(q.1 == i) && !(q.1 + 1 == i && q.2.category == 2)))) : Lv ad n (L.set i (some v)) ls' := by
  refine ⟨by rw [List.length_set]; exact h.1, ⟨h'.1, h'.2.1, fun q hq => h'.2.2 q ?_⟩, fun w hw => ?_⟩
  · obtain ⟨j, x⟩ := q
    obtain ⟨w, h1, h2, h3⟩ := (lvl_mem _ 0 j x).mp hq
    rw [Nat.sub_zero] at h2
    by_cases e : j = i
    · subst e
      have hl : j < L.length := by
        have := (List.getElem?_eq_some_iff.mp h2).1
        rwa [List.length_set] at this
      rw [List.getElem?_set_self hl] at h2
      cases h2
      rw [h3]
      exact List.mem_cons_self
    · rw [List.getElem?_set_ne (Ne.symm e)] at h2
      refine List.mem_cons_of_mem _ (List.mem_filter.mpr ⟨(lvl_mem L 0 j x).mpr ⟨w, h1, by simpa using h2, h3⟩, ?_⟩)
      rw [h3, cv_cat]
      simp [e]
  · obtain ⟨j, hj⟩ := List.getElem?_of_mem hw
    by_cases e : j = i
    · subst e
      have hl : j < L.length := by
        have := (List.getElem?_eq_some_iff.mp hj).1
        rwa [List.length_set] at this
      rw [List.getElem?_set_self hl] at hj
      cases hj
      exact hv
    · rw [List.getElem?_set_ne (Ne.symm e)] at hj
      exact h.2.2 w (List.mem_of_getElem? hj)
/-- a method: name, code, locals, what it returns, frames and words of locals below it -/
abbrev MR : Type := MethodName × ByteArray × Nat × Option FieldType × Nat × Nat
def WS : List Cond := lw_tbl.filter goodWord
def wsY (Y : MR) : List Cond := Cond.code Y.1 Y.2.1 Y.2.2.1 Y.2.2.2.1 :: WS
def rmY (Y : MR) : Room := { frames := Y.2.2.2.2.1, cells := 0, slots := 0, locals := Y.2.2.2.2.2 }
def isNest : Cond → Bool
  | .fieldLinkNest _ _ _ _ _ _ => true
  | .methodLinkNest _ _ _ _ => true
  | _ => false
def NWS : List Cond := lw_tbl.filter isNest
theorem mwN {w : Cond} (i : Nat) (h : lw_tbl[i]? = some w) (hg : isNest w = true) : w ∈ NWS := List.mem_filter.mpr ⟨List.mem_of_getElem? h, hg⟩
theorem nw_warm {w : Cond} (hw : w ∈ NWS) {s U : State} (hW : s.WarmedH U.vm) (h : va_Nw w s) : va_Nw w U := by
  have h1 := (List.mem_filter.mp hw).2
  cases w <;> first | exact va_Nw.warmF hW h | exact va_Nw.warmM hW h | cases h1
theorem nw_tab {w : Cond} (hw : w ∈ NWS) : w.onTables = true := by
  have h1 := (List.mem_filter.mp hw).2
  cases w <;> first | rfl | cases h1
theorem mw {w : Cond} (i : Nat) (h : lw_tbl[i]? = some w) (hg : goodWord w = true) : w ∈ WS := List.mem_filter.mpr ⟨List.mem_of_getElem? h, hg⟩
def tysC (ca : Nat → ClassId) : List (ClassId × FieldType) := [(ca 0, .int), (ca 1, .byte), (ca 2, .short), (ca 3, .char), (ca 0, .int), (ca 5, .object "SpiceThrees$Shop")]
def pow3 (j : Nat) : Int := match j with
  | 0 => 1 | 1 => 3 | 2 => 9 | 3 => 27 | 4 => 81 | 5 => 243 | 6 => 729 | 7 => 2187 | 8 => 6561 | _ => 0