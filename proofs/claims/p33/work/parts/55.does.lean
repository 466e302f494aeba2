/-! the law's numbers, and the act that a number of the script asks for -/
theorem and_b {x y : Int} {n : Nat} (h1 : (Int32.ofInt y).toBitVec.msb = false) (h2 : (Int32.ofInt y).toBitVec.toNat = n) : 0 ≤ and32 x y ∧ and32 x y ≤ n := by
  have e : and32 x y = ((Int32.ofInt x).toBitVec &&& (Int32.ofInt y).toBitVec).toInt := rfl
  have hm : ((Int32.ofInt x).toBitVec &&& (Int32.ofInt y).toBitVec).msb = false := by rw [BitVec.msb_and, h1, Bool.and_false]
  have hl : (Int32.ofInt x).toBitVec.toNat &&& n ≤ n := Nat.and_le_right
  rw [e, BitVec.toInt_eq_toNat_of_msb hm, BitVec.toNat_and, h2]
  exact ⟨Int.natCast_nonneg _, Int.ofNat_le.mpr hl⟩
theorem low_eq (v : Int) {n : Int} (h : 0 < n) : ∃ r, xl_low v n = some r ∧ 0 ≤ r ∧ r < n := by
  have hb := and_b (x := v) (y := 2147483647) (n := 2147483647) (by decide) (by decide)
  refine ⟨Int.tmod (and32 v 2147483647) n, ?_, Int.tmod_nonneg _ hb.1, Int.tmod_lt_of_pos _ h⟩
  rw [xl_low, if_neg (by omega)]
theorem mix_eq (v : Int) : ∃ m, xl_mix v = some m ∧ isM m := by
  obtain ⟨r, e, r0, r1⟩ := low_eq v (n := 6561) (by decide)
  rw [xl_mix, e, sb]
  by_cases c : and32 (ishr32 v 3) 1 = 0
  · rw [if_pos c, xl_mix_42]; exact ⟨r, rfl, r0, r1⟩
  · rw [if_neg c]
    by_cases d : and32 (ishr32 v 4) 1 = 0
    · rw [if_pos d, xl_mix_42, tmE r0]; exact ⟨_, rfl, by omega, by omega⟩
    · rw [if_neg d, xl_mix_42, tmE r0, w32_eq (by omega) (by omega)]; exact ⟨_, rfl, by omega, by omega⟩
section DOES
variable {a : Nat → Int} {ob : Option (Nat → Int)} {t e : Int} {ν : Mem}
theorem l_jar (h : ST a ob t ν) (v : Int) : ∃ x, AN (xl_jar v ν) x (ST a ob t) ∧ ((x = -1 ∧ a 8 = 0) ∨ ∃ i : Nat, (i : Int) < a 8 ∧ x = a (9 + 2 * i)) := by
  have w8 := h.1.1.2.1
  by_cases c : a 8 = 0
  · refine ⟨-1, ?_, Or.inl ⟨rfl, c⟩⟩
    rw [xl_jar]
    refine (q_c0 h).bind fun ν' h' => ?_
    dsimp only
    rw [bnd_eq, if_pos c, xl_jar_23]
    exact AN.ret h'
  · obtain ⟨r, er, r0, r1⟩ := low_eq v (n := a 8) (by omega)
    obtain ⟨k, rfl⟩ := Int.eq_ofNat_of_zero_le r0
    refine ⟨a (9 + 2 * k), ?_, Or.inr ⟨k, r1, rfl⟩⟩
    rw [xl_jar]
    refine (q_c0 h).bind fun ν' h' => ?_
    dsimp only
    rw [bnd_eq, if_neg c, er, sb, q_rank h' r1, sb, xl_jar_23]
    exact AN.ret h'
def DN (x : Option (Int × Mem)) (e u : Int) : Prop := ∃ v a', 0 ≤ v ∧ AN x v (ST a' none u) ∧ OD a' (e + 1) ∧ BL a'
theorem DN.bind {x : Option (Int × Mem)} {v u : Int} {P : Mem → Prop} {f : Int × Mem → Option (Int × Mem)} (h : AN x v P) (k : ∀ ν', P ν' → DN (f (v, ν')) e u) : DN (x.bind f) e u := by
  obtain ⟨ν', e1, p⟩ := h
  rw [e1, sb]
  exact k ν' p
theorem DN.ret {u v : Int} (h : ST a ob t ν) (htu : t ≤ u) (hv : 0 ≤ v) (o : OD a (e + 1)) (l : BL a) : DN (some (v, ν)) e u := ⟨v, a, hv, AN.ret (ST_n h htu), o, l⟩
theorem DN.stay (h : ST a ob t ν) (o : OD a e) (l : BL a) : DN (some (0, ν)) e (t + 100000) := DN.ret h (by omega) (by decide) (OD_s o (by omega)) l
theorem d_jar (h : ST a ob t ν) (h0 : 0 ≤ t) (ht : t ≤ 900000000) (he : e < 200) (o : OD a e) (l : BL a) (x : Int) : DN (xl_does_96 x ν) e (t + 100000) := by
  have hw := h.1.1
  rw [xl_does_96]
  refine DN.bind (q_c0 h) fun ν1 h1 => ?_
  dsimp only
  by_cases c : a 8 ≤ 6
  · obtain ⟨m, em, hm⟩ := mix_eq (ishr32 x 4)
    have o4 := o.2.2.2
    rw [if_pos c, em, sb]
    refine DN.bind (a_jar h1 h0 ht hm (by omega)) fun ν2 h2 => ?_
    dsimp only
    rw [xl_does_120]
    have hr := r_jar (m := m) (p := prc a m) hw o l c (by omega)
    exact DN.ret h2 (by omega) hw.2.2.2.1.1 hr.1 hr.2
  · rw [if_neg c, xl_does_120]
    exact DN.stay h1 o l
theorem d_pour (h : ST a ob t ν) (h0 : 0 ≤ t) (ht : t ≤ 900000000) (o : OD a e) (l : BL a) {x y : Int} (hx : (x = -1 ∧ a 8 = 0) ∨ ∃ i : Nat, (i : Int) < a 8 ∧ x = a (9 + 2 * i)) (hy : (y = -1 ∧ a 8 = 0) ∨ ∃ i : Nat, (i : Int) < a 8 ∧ y = a (9 + 2 * i)) : DN (xl_does_121 x y ν) e (t + 100000) := by
  have hw := h.1.1
  have z : DN (xl_does_130 ν) e (t + 100000) := by
    rw [xl_does_130, xl_does_140, if_neg (by decide), xl_does_155]
    exact DN.stay h o l
  rw [xl_does_121]
  by_cases c : x < 0
  · rw [if_pos c]; exact z
  · rw [if_neg c]
    by_cases d : x = y
    · rw [if_pos d]; exact z
    · rw [if_neg d]
      rcases hx with ⟨hx, -⟩ | ⟨i, hi, rfl⟩
      · omega
      rcases hy with ⟨hy, h8⟩ | ⟨j, hj, rfl⟩
      · omega
      have hij : i ≠ j := fun z => d (by rw [z])
      have sp := sPours_at (fnd_at o hi) (fnd_at o hj) hij
      by_cases k : a (10 + 2 * i) = 0
      · rw [if_pos k] at sp
        have hv : (sPours a (a (9 + 2 * i)) (a (9 + 2 * j))).1 = -5 := by rw [sp]
        refine DN.bind (a_pourN h ht (by omega)) fun ν2 h2 => ?_
        dsimp only
        rw [hv, xl_does_140, if_pos rfl, xl_does_155]
        exact DN.ret h2 (by omega) (by decide) (OD_s o (by omega)) l
      · rw [if_neg k] at sp
        have hb := un_mx (a (10 + 2 * i)) (a (10 + 2 * j))
        have hv : 0 ≤ (sPours a (a (9 + 2 * i)) (a (9 + 2 * j))).1 := by rw [sp]; dsimp only; omega
        have hr := r_pour o.2.2.1 o l hi hj hij rfl
        refine DN.bind (a_pour h h0 ht hv) fun ν2 h2 => ?_
        dsimp only
        rw [xl_does_140, if_neg (by omega), xl_does_155]
        refine DN.ret h2 (by omega) hv ?_ ?_
        · rw [sp]; exact hr.1
        · rw [sp]; exact hr.2
theorem d_rule (h : ST a ob t ν) (o : OD a e) (l : BL a) (x : Int) : DN (xl_does_208 x ν) e (t + 100000) := by
  have hw := h.1.1
  have w34 := hw.2.2.2.2.1
  rw [xl_does_208]
  refine DN.bind (q_c1 h) fun ν1 h1 => ?_
  dsimp only
  by_cases c : a 34 = 8
  · obtain ⟨r, er, r0, r1⟩ := low_eq (ishr32 x 4) (n := 8) (by decide)
    rw [if_pos c, er, sb]
    refine DN.bind (a_drop h1 (x := r) (by omega)) fun ν2 h2 => ?_
    dsimp only
    rw [xl_does_243]
    have hr := r_drr hw o l (k := r) (by omega)
    exact DN.ret h2 (by omega) (sr_nn _) hr.1 hr.2
  · obtain ⟨m, em, hm⟩ := mix_eq (ishr32 x 4)
    rw [if_neg c, em, sb]
    refine DN.bind (a_rule h1 hm (by omega)) fun ν2 h2 => ?_
    dsimp only
    rw [xl_does_243]
    have hr := r_rule (m := m) hw o l
    exact DN.ret h2 (by omega) (sr_nn _) hr.1 hr.2
theorem d_want3 (h : ST a ob t ν) (o : OD a e) (l : BL a) (c : a 43 < 8) {m : Int} (hm : isM m) : DN (xl_does_352 m ν) e (t + 100000) := by
  have hw := h.1.1
  have w43 := hw.2.2.2.2.2.2.1
  rw [xl_does_352]
  refine DN.bind (a_want h hm c) fun ν2 h2 => ?_
  dsimp only
  rw [xl_does_355]
  have hr := r_want (m := m) hw o l
  exact DN.ret h2 (by omega) (by omega) hr.1 hr.2
theorem d_want (h : ST a ob t ν) (o : OD a e) (l : BL a) (x : Int) {y : Int} (hy : (y = -1 ∧ a 8 = 0) ∨ ∃ i : Nat, (i : Int) < a 8 ∧ y = a (9 + 2 * i)) : DN (xl_does_309 x y ν) e (t + 100000) := by
  have hw := h.1.1
  have w43 := hw.2.2.2.2.2.2.1
  rw [xl_does_309]
  refine DN.bind (q_c6 h) fun ν1 h1 => ?_
  dsimp only
  by_cases c : a 43 = 8
  · rw [if_pos c, xl_does_355]
    exact DN.stay h1 o l
  · have z : DN (xl_does_337 x ν1) e (t + 100000) := by
      obtain ⟨m, em, hm⟩ := mix_eq (ishr32 x 5)
      rw [xl_does_337, em, sb]
      exact d_want3 h1 o l (by omega) hm
    rw [if_neg c]
    by_cases d : y < 0
    · rw [if_pos d]; exact z
    · rw [if_neg d]
      by_cases k : and32 (ishr32 x 4) 1 = 0
      · rw [if_pos k]; exact z
      · rw [if_neg k]
        rcases hy with ⟨hy, -⟩ | ⟨i, hi, rfl⟩
        · omega
        refine DN.bind (q_j0 h1 hi (fnd_at o hi)) fun ν2 h2 => ?_
        dsimp only
        exact d_want3 h2 o l (by omega) (hw.2.2.1 i hi).1
theorem d_serve (h : ST a ob t ν) (h0 : 0 ≤ t) (ht : t ≤ 900000000) (o : OD a e) (l : BL a) : DN ((xx_serve ν).bind fun p29 => bnd (p29.1) fun v30 => if v30 = (-5) then xl_does_375 0 p29.2 else xl_does_375 v30 p29.2) e (t + 100000) := by
  have hw := h.1.1
  by_cases c : 0 ≤ (sServe a).1
  · refine DN.bind (a_serve h h0 ht c) fun ν2 h2 => ?_
    dsimp only
    rw [bnd_eq, if_neg (by omega), xl_does_375]
    have hr := r_serve hw o l
    exact DN.ret h2 (by omega) c hr.1 hr.2
  · have hv : (sServe a).1 = -5 := by
      have w43 := hw.2.2.2.2.2.2.1
      rw [sServe] at c ⊢
      by_cases d : a 43 = 0
      · rw [if_pos d]
      · exfalso
        rw [if_neg d] at c
        by_cases k : fjF (drw a) (tau (sp a)) (tau (sp a) (a 44)) (a 8).toNat 0 = -5
        · rw [if_pos k] at c; exact c (show (0 : Int) ≤ 0 by decide)
        · rw [if_neg k] at c
          refine c ?_
          have hp : okP (drw a) := (Wf_drw hw (by omega)).1
          have pb := prc_b hp (mixA (drw a) (fjF (drw a) (tau (sp a)) (tau (sp a) (a 44)) (a 8).toNat 0))
          rw [sSell]
          dsimp only
          omega
    refine DN.bind (a_serveN h h0 ht (by omega)) fun ν2 h2 => ?_
    dsimp only
    rw [bnd_eq, if_pos hv, xl_does_375]
    exact DN.ret h2 (by omega) (by decide) (OD_s o (by omega)) l
theorem d_price (h : ST a ob t ν) (o : OD a e) (l : BL a) {x v : Int} (hx : 0 ≤ x ∧ x < 8) (hv : 0 ≤ v ∧ v < 100) : DN ((xx_price x v ν).bind fun p23 => bnd (p23.1) fun v24 => if v24 = (-5) then xl_does_308 0 p23.2 else xl_does_308 v24 p23.2) e (t + 100000) := by
  have hw := h.1.1
  have hq := hw.1 x.toNat (by omega)
  by_cases c : a x.toNat = v
  · have hs : sPrice a x v = (-5, a) := by rw [sPrice, if_neg (by omega), if_neg (by omega), if_pos c]
    refine DN.bind (a_priceN h (by rw [hs]; show (-5 : Int) < 0; decide) (by rw [hs])) fun ν2 h2 => ?_
    dsimp only
    rw [bnd_eq, hs, if_pos rfl, xl_does_308]
    exact DN.ret h2 (by omega) (by decide) (OD_s o (by omega)) l
  · have hs : sPrice a x v = (a x.toNat, up a x.toNat v) := by rw [sPrice, if_neg (by omega), if_neg (by omega), if_neg c]
    have h1 : (sPrice a x v).1 = a x.toNat := by rw [hs]
    have hr := r_price (x := x) (v := v) o l
    refine DN.bind (a_price h (by omega)) fun ν2 h2 => ?_
    dsimp only
    rw [bnd_eq, if_neg (by omega), xl_does_308]
    exact DN.ret h2 (by omega) (by omega) hr.1 hr.2
theorem d_more (h : ST a ob t ν) (h0 : 0 ≤ t) (ht : t ≤ 900000000) (o : OD a e) (l : BL a) {i : Nat} (hi : (i : Int) < a 8) : DN ((xx_more (a (9 + 2 * i)) ν).bind fun p10 => xl_does_169 p10.1 p10.2) e (t + 100000) := by
  have hw := h.1.1
  have sp := sMore_at (fnd_at o hi)
  by_cases k : a (10 + 2 * i) = 0
  · rw [if_pos k] at sp
    have hv : (sMore a (a (9 + 2 * i))).1 = -5 := by rw [sp]
    refine DN.bind (a_moreN h h0 ht (by omega)) fun ν2 h2 => ?_
    dsimp only
    rw [hv, xl_does_169, if_pos rfl, xl_does_184]
    exact DN.ret h2 (by omega) (by decide) (OD_s o (by omega)) l
  · rw [if_neg k] at sp
    have hb := mx_isM (a (10 + 2 * i)) (a (10 + 2 * i))
    have hv : 0 ≤ (sMore a (a (9 + 2 * i))).1 := by rw [sp]; dsimp only; omega
    have hr := r_more o l hi (p := a 56 + prc a (a (10 + 2 * i))) rfl
    refine DN.bind (a_more h h0 ht hv) fun ν2 h2 => ?_
    dsimp only
    rw [xl_does_169, if_neg (by omega), xl_does_184]
    refine DN.ret h2 (by omega) hv ?_ ?_
    · rw [sp]; exact hr.1
    · rw [sp]; exact hr.2
theorem d_throw (h : ST a ob t ν) (h0 : 0 ≤ t) (ht : t ≤ 900000000) (o : OD a e) (l : BL a) {i : Nat} (hi : (i : Int) < a 8) : DN ((xx_throwAway (a (9 + 2 * i)) ν).bind fun p11 => xl_does_207 p11.1 p11.2) e (t + 100000) := by
  have hw := h.1.1
  have sp := sThrow_at (fnd_at o hi)
  have ub := un_b (a (10 + 2 * i))
  have hv : 0 ≤ (sThrow a (a (9 + 2 * i))).1 := by rw [sp]; dsimp only; omega
  have hr := r_throw o l hi
  refine DN.bind (a_throw h h0 ht hv) fun ν2 h2 => ?_
  dsimp only
  rw [xl_does_207]
  refine DN.ret h2 (by omega) hv ?_ ?_
  · rw [sp]; exact hr.1
  · rw [sp]; exact hr.2
theorem l_does (h : ST a ob t ν) (h0 : 0 ≤ t) (ht : t ≤ 900000000) (he : e < 200) (o : OD a e) (l : BL a) (v : Int) : DN (xl_does v ν) e (t + 100000) := by
  have hw := h.1.1
  have w34 := hw.2.2.2.2.1
  obtain ⟨x, ex, hx⟩ := l_jar h (ishr32 v 4)
  rw [xl_does]
  refine DN.bind ex fun ν1 h1 => ?_
  dsimp only
  rw [bnd_eq]
  obtain ⟨y, ey, hy⟩ := l_jar h1 (ishr32 v 8)
  refine DN.bind ey fun ν2 h2 => ?_
  dsimp only
  rw [bnd_eq, bnd_eq]
  have hb := and_b (x := v) (y := 15) (n := 15) (by decide) (by decide)
  generalize and32 v 15 = s at hb
  by_cases c0 : s = 0
  · rw [if_pos c0]; exact d_jar h2 h0 ht he o l v
  rw [if_neg c0]
  by_cases c1 : s = 1
  · rw [if_pos c1]; exact d_jar h2 h0 ht he o l v
  rw [if_neg c1]
  by_cases c2 : s = 2
  · rw [if_pos c2]; exact d_jar h2 h0 ht he o l v
  rw [if_neg c2]
  by_cases c3 : s = 3
  · rw [if_pos c3]; exact d_jar h2 h0 ht he o l v
  rw [if_neg c3]
  by_cases c4 : s = 4
  · rw [if_pos c4]; exact d_pour h2 h0 ht o l hx hy
  rw [if_neg c4]
  by_cases c5 : s = 5
  · rw [if_pos c5]; exact d_pour h2 h0 ht o l hx hy
  rw [if_neg c5]
  by_cases c6 : s = 6
  · rw [if_pos c6]
    by_cases d : 0 ≤ x
    · rw [if_pos d]
      rcases hx with ⟨hx, -⟩ | ⟨i, hi, rfl⟩
      · omega
      exact d_more h2 h0 ht o l hi
    · rw [if_neg d, xl_does_169, if_neg (by decide), xl_does_184]
      exact DN.stay h2 o l
  rw [if_neg c6]
  by_cases c7 : s = 7
  · rw [if_pos c7]
    by_cases d : x < 0
    · rw [if_pos d, xl_does_198, xl_does_207]
      exact DN.stay h2 o l
    · rw [if_neg d]
      by_cases k : and32 (ishr32 v 12) 1 = 0
      · rw [if_pos k, xl_does_198, xl_does_207]
        exact DN.stay h2 o l
      · rw [if_neg k]
        rcases hx with ⟨hx, -⟩ | ⟨i, hi, rfl⟩
        · omega
        exact d_throw h2 h0 ht o l hi
  rw [if_neg c7]
  by_cases c8 : s = 8
  · rw [if_pos c8]; exact d_rule h2 o l v
  rw [if_neg c8]
  by_cases c9 : s = 9
  · rw [if_pos c9]; exact d_rule h2 o l v
  rw [if_neg c9]
  by_cases c10 : s = 10
  · rw [if_pos c10]
    refine DN.bind (q_c1 h2) fun ν3 h3 => ?_
    dsimp only
    by_cases d : a 34 = 0
    · rw [if_pos d, xl_does_271]
      exact DN.stay h3 o l
    · rw [if_neg d]
      refine DN.bind (q_c1 h3) fun ν4 h4 => ?_
      dsimp only
      obtain ⟨r, er, r0, r1⟩ := low_eq (ishr32 v 4) (n := a 34) (by omega)
      rw [er, sb]
      refine DN.bind (a_drop h4 (x := r) (by omega)) fun ν5 h5 => ?_
      dsimp only
      rw [xl_does_271]
      have hr := r_drr hw o l (k := r) (by omega)
      exact DN.ret h5 (by omega) (sr_nn _) hr.1 hr.2
  rw [if_neg c10]
  by_cases c11 : s = 11
  · rw [if_pos c11]
    obtain ⟨r, er, r0, r1⟩ := low_eq (ishr32 v 4) (n := 8) (by decide)
    obtain ⟨q, eq, q0, q1⟩ := low_eq (ishr32 v 7) (n := 100) (by decide)
    rw [er, sb, eq, sb]
    exact d_price h2 o l ⟨r0, r1⟩ ⟨q0, q1⟩
  rw [if_neg c11]
  by_cases c12 : s = 12
  · rw [if_pos c12]; exact d_want h2 o l v hx
  rw [if_neg c12]
  by_cases c13 : s = 13
  · rw [if_pos c13]; exact d_want h2 o l v hx
  rw [if_neg c13]
  exact d_serve h2 h0 ht o l
end DOES
