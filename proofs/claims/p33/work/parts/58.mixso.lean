/-! the law: mixes and what tastes like them -/
section MIXSO
variable {a : Nat → Int} {ob : Option (Nat → Int)} {t : Int}
theorem tau_add {S : Int → Prop} (hS : Sg S) {m r : Int} (hm : isM m) (hr : isM r) : tau S (mx m r) = tau S m ↔ S r := by
  rw [tau_eq hS (mx_isM m r) hm]
  unfold eqv
  rw [show mx (mx m r) (mx m m) = r by rw [mx_comm m r, mx_assoc, mx_three, mx_zero hr]]
theorem rule_in {k : Nat} (hk : k < rn a) (hm : isM (rf a k)) : sp a (rf a k) := spn_v (v := rf a) (q := k) hm (rn a) hk
theorem isC_eqv {S : Int → Prop} (hS : Sg S) {p : Nat → Int} {m n c : Int} (hn : isM n) (h : IsC S p m c) (e : eqv S m n) : IsC S p n c :=
  ⟨h.1, eqv_tr hS (eqv_sm hS hn e) h.2.1, fun y hy f => h.2.2 y hy (eqv_tr hS e f)⟩
theorem mix_end {m w : Int} {ν : Mem} (h : ST a ob t ν) (hm : isM m) (hw : isM w) (hT : tau (sp a) w = tau (sp a) m) : AN (xl_isMixSo_322 (tau (sp a) m) (chp a m) 1 w ν) 1 (ST a ob t) := by
  have e := (tau_eq (sp_sg a) hm hw).mp hT.symm
  have hc := chp_is h hm
  have hcw := chp_of (isC_eqv (sp_sg a) hw hc e)
  have hle := tau_le (sp_sg a) hw
  have hy := hc.2.2 w hw e
  have c1 := hc.1
  rw [xl_isMixSo_322, if_neg (show ¬ (1 : Int) = 0 by decide)]
  refine (q_m2 h hw).bind fun ν1 h1 => ?_
  dsimp only
  rw [if_pos hT]
  refine (q_m4 h1 hw).bind fun ν2 h2 => ?_
  dsimp only
  rw [if_pos hcw, if_neg (by omega)]
  refine (q_m1 h2 hw).bind fun ν3 h3 => ?_
  dsimp only
  refine (q_m1 h3 c1).bind fun ν4 h4 => ?_
  dsimp only
  rw [if_neg (by omega)]
  refine (q_m1 h4 hw).bind fun ν5 h5 => ?_
  dsimp only
  refine (q_m1 h5 c1).bind fun ν6 h6 => ?_
  dsimp only
  have go : AN (xl_isMixSo_399 ν6) 1 (ST a ob t) := by
    rw [xl_isMixSo_399, xl_isMixSo_404, if_pos (Or.inr rfl)]
    exact AN.ret h6
  by_cases z : prc a (chp a m) < prc a w
  · rw [if_pos z]; exact go
  · rw [if_neg z, if_neg (by omega)]; exact go
theorem mix_add {K : Int → Int → Int → Int → Int → Int → Mem → Option (Int × Mem)} {x3 x4 x5 x9 r times : Int} {m : Int} (ht3 : 0 ≤ times ∧ times ≤ 3) (hr : isM r) (hS : sp a r) (fin : ∀ w ν, ST a ob t ν → isM w → tau (sp a) w = tau (sp a) m → AN (xl_isMixSo_293 K x3 x4 x5 1 w x9 r ν) 1 (ST a ob t)) (j : Nat) : ∀ (k n : Nat) (w : Int) (ν : Mem), (k : Int) + j = times → j < n → ST a ob t ν → isM w → tau (sp a) w = tau (sp a) m → AN (xl_isMixSo_270 K n x3 x4 x5 1 w x9 r times k ν) 1 (ST a ob t) := by
  induction j with
  | zero =>
    intro k n w ν hk hn h hw hT
    obtain ⟨n, rfl⟩ : ∃ m, n = m + 1 := ⟨n - 1, by omega⟩
    rw [xl_isMixSo_270, if_pos (by omega)]
    exact fin w ν h hw hT
  | succ j ih =>
    intro k n w ν hk hn h hw hT
    obtain ⟨n, rfl⟩ : ∃ m, n = m + 1 := ⟨n - 1, by omega⟩
    have e3 : w32 ((k : Int) + 1) = ((k + 1 : Nat) : Int) := by rw [w32_eq (by omega) (by omega)]; omega
    rw [xl_isMixSo_270, if_neg (by omega), q_tog h hw hr, sb, bnd_eq, e3]
    exact ih (k + 1) n _ ν (by omega) (by omega) h (mx_isM w r) (((tau_add (sp_sg a) hw hr).mpr hS).trans hT)
theorem mix_rules {x3 m : Int} (hm : isM m) (j : Nat) : ∀ (k n : Nat) (w : Int) (ν : Mem), (k : Int) + j = a 34 → j < n → ST a ob t ν → isM w → tau (sp a) w = tau (sp a) m → AN (xl_isMixSo_239 n x3 (tau (sp a) m) (chp a m) 1 w k ν) 1 (ST a ob t) := by
  induction j with
  | zero =>
    intro k n w ν hk hn h hw hT
    obtain ⟨n, rfl⟩ : ∃ m, n = m + 1 := ⟨n - 1, by omega⟩
    rw [xl_isMixSo_239]
    refine (q_c1 h).bind fun ν1 h1 => ?_
    dsimp only
    rw [if_pos (by omega)]
    exact mix_end h1 hm hw hT
  | succ j ih =>
    intro k n w ν hk hn h hw hT
    obtain ⟨n, rfl⟩ : ∃ m, n = m + 1 := ⟨n - 1, by omega⟩
    have w34 := h.1.1.2.2.2.2.1
    have hk1 : (k : Int) < a 34 := by omega
    have hr := h.1.1.2.2.2.2.2.1 k hk1
    have hS : sp a (a (35 + k)) := rule_in (a := a) (k := k) (by unfold rn; omega) hr
    have e3 : w32 ((k : Int) + 1) = ((k + 1 : Nat) : Int) := by rw [w32_eq (by omega) (by omega)]; omega
    have hb := and_b (x := ishr32 x3 (w32 (2 * (k : Int)))) (y := 3) (n := 3) (by decide) (by decide)
    rw [xl_isMixSo_239]
    refine (q_c1 h).bind fun ν1 h1 => ?_
    dsimp only
    rw [if_neg (by omega), q_ruleOf h1 hk1, sb, bnd_eq]
    generalize and32 (ishr32 x3 (w32 (2 * (k : Int)))) 3 = times at hb
    refine mix_add (m := m) hb hr hS (fun w' ν2 h2 hw' hT' => ?_) times.toNat 0 FU w ν1 (by omega) (by have := FU_ge; omega) h1 hw hT
    rw [xl_isMixSo_293, if_neg (show ¬ (1 : Int) = 0 by decide)]
    refine (q_m3 h2 hr).bind fun ν3 h3 => ?_
    dsimp only
    rw [if_pos ((tau_0 (sp_sg a) hr).mpr hS), if_pos rfl, xl_isMixSo_314, bnd_eq, e3]
    exact ih (k + 1) n w' ν3 (by omega) (by omega) h3 hw' hT'
theorem l_mix {m n v : Int} {ν : Mem} (h : ST a ob t ν) (hm : isM m) (hn : isM n) : AN (xl_isMixSo m n v ν) 1 (ST a ob t) := by
  have sg := sp_sg a
  have w34 := h.1.1.2.2.2.2.1
  have hT := tau_is sg hm
  have tM := hT.1
  have hle := tau_le sg hm
  have tt := tau_tau sg hm
  have hc := chp_is h hm
  have cM := hc.1
  have ce := (tau_eq sg hm cM).mpr hc.2.1
  have y1 := hc.2.2 m hm (eqv_rf sg m)
  have y2 := hc.2.2 (tau (sp a) m) tM hT.2.1
  have t0 : tau (sp a) 0 = 0 := (tau_0 sg z_isM).mpr sg.1
  have fin : ∀ ν, ST a ob t ν → AN (xl_isMixSo_231 m v (tau (sp a) m) (chp a m) 1 ν) 1 (ST a ob t) := fun ν hν => by
    rw [xl_isMixSo_231]
    exact mix_rules hm (a 34).toNat 0 FU m ν (by omega) (by have := FU_ge; omega) hν hm rfl
  rw [xl_isMixSo]
  refine (q_m2 h hm).bind fun ν1 h1 => ?_
  dsimp only
  rw [bnd_eq]
  refine (q_m4 h1 hm).bind fun ν2 h2 => ?_
  dsimp only
  rw [bnd_eq, q_tog h2 hm hn, sb, q_tog h2 hn hm, sb, if_pos (mx_comm n m)]
  refine (q_m5 h2 hm).bind fun ν3 h3 => ?_
  dsimp only
  rw [q_tog h3 hm (mx_isM m m), sb, if_pos (mx_three m), q_tog h3 hm hm, sb, q_tog h3 (mx_isM m m) hm, sb, if_pos (by rw [mx_comm, mx_three]), if_neg (by omega)]
  refine (q_m2 h3 tM).bind fun ν4 h4 => ?_
  dsimp only
  rw [if_pos tt]
  refine (q_alT h4 hm tM).bind fun ν5 h5 => ?_
  dsimp only
  rw [if_pos tt.symm, if_pos rfl]
  refine (q_alT h5 hm cM).bind fun ν6 h6 => ?_
  dsimp only
  rw [if_pos ce, if_pos rfl]
  refine (q_m1 h6 cM).bind fun ν7 h7 => ?_
  dsimp only
  refine (q_m1 h7 hm).bind fun ν8 h8 => ?_
  dsimp only
  rw [if_neg (by omega)]
  refine (q_m1 h8 cM).bind fun ν9 h9 => ?_
  dsimp only
  refine (q_m1 h9 tM).bind fun ν10 h10 => ?_
  dsimp only
  rw [if_neg (by omega)]
  refine (q_m3 h10 hm).bind fun ν11 h11 => ?_
  dsimp only
  refine (q_alT h11 hm z_isM).bind fun ν12 h12 => ?_
  dsimp only
  rw [t0, if_pos rfl, xl_isMixSo_159, if_neg (show ¬ (1 : Int) = 0 by decide)]
  refine (q_alT h12 hm hn).bind fun ν13 h13 => ?_
  dsimp only
  refine (q_alF h13 hm hn).bind fun ν14 h14 => ?_
  dsimp only
  rw [if_pos rfl]
  refine (q_alF h14 hm hn).bind fun ν15 h15 => ?_
  dsimp only
  refine (q_m2 h15 hn).bind fun ν16 h16 => ?_
  dsimp only
  have go : ∀ s : Int, AN (xl_isMixSo_206 m n v (tau (sp a) m) (chp a m) (mx m n) s s ν16) 1 (ST a ob t) := fun s => by
    rw [xl_isMixSo_206, if_pos rfl]
    refine (q_alT h16 (mx_isM m n) hm).bind fun ν17 h17 => ?_
    dsimp only
    refine (q_m3 h17 hn).bind fun ν18 h18 => ?_
    dsimp only
    have hq : tau (sp a) (mx m n) = tau (sp a) m ↔ tau (sp a) n = 0 := (tau_add sg hm hn).trans (tau_0 sg hn).symm
    by_cases z : tau (sp a) n = 0
    · rw [if_pos (hq.mpr z), if_pos z, if_pos rfl]
      exact fin ν18 h18
    · rw [if_neg (fun y => z (hq.mp y)), if_neg z, if_pos rfl]
      exact fin ν18 h18
  by_cases z : tau (sp a) n = tau (sp a) m
  · rw [if_pos z, if_pos z.symm]
    exact go 1
  · rw [if_neg z, if_neg (fun y => z y.symm)]
    exact go 0
end MIXSO
