/-! the law: accounts, jars and shelves -/
theorem unF_b (a : Nat → Int) (j : Nat) : ∀ k, 0 ≤ unF a j k ∧ unF a j k ≤ 16 * j := by
  induction j with
  | zero => intro k; rw [unF]; omega
  | succ j ih =>
    intro k
    have := ih (k + 1)
    have := un_b (a (10 + 2 * k))
    rw [unF]
    omega
theorem p3_89 : ∀ r : Fin 9, p3 r.val * p3 (8 - r.val) = 6561 := by decide
section ACC
variable {a : Nat → Int} {ob : Option (Nat → Int)} {t e : Int}
theorem acc_jars {c : Int} (o : OD a e) (fin : ∀ ν, ST a ob t ν → AN (xl_areAccountsSo_161 c (unF a (a 8).toNat 0) 0 1 ν) 1 (ST a ob t)) (j : Nat) : ∀ (k n : Nat) (p : Int) (ν : Mem), (k : Int) + j = a 8 → j < n → ST a ob t ν → (∀ q : Nat, k ≤ q → (q : Int) < a 8 → p < a (9 + 2 * q)) → AN (xl_areAccountsSo_13 n c (unF a k 0) 0 p 1 k ν) 1 (ST a ob t) := by
  have o7 := o.2.2.1
  induction j with
  | zero =>
    intro k n p ν hk hn h hp
    obtain ⟨n, rfl⟩ : ∃ m, n = m + 1 := ⟨n - 1, by omega⟩
    rw [xl_areAccountsSo_13]
    refine (q_c0 h).bind fun ν1 h1 => ?_
    dsimp only
    rw [if_pos (by omega)]
    have e1 : (a 8).toNat = k := by omega
    have := fin ν1 h1
    rwa [e1] at this
  | succ j ih =>
    intro k n p ν hk hn h hp
    obtain ⟨n, rfl⟩ : ∃ m, n = m + 1 := ⟨n - 1, by omega⟩
    have hk1 : (k : Int) < a 8 := by omega
    have f := fnd_at o hk1
    have m := (h.1.1.2.2.1 k hk1).1
    have ub := unF_b a k 0
    have u1 := un_b (a (10 + 2 * k))
    have e3 : w32 ((k : Int) + 1) = ((k + 1 : Nat) : Int) := by rw [w32_eq (by omega) (by omega)]; omega
    have e4 : w32 (unF a k 0 + un (a (10 + 2 * k))) = unF a (k + 1) 0 := by rw [w32_eq (by omega) (by omega), unF_add, unF_1, Nat.zero_add]
    have hpk := hp k (Nat.le_refl k) hk1
    rw [xl_areAccountsSo_13]
    refine (q_c0 h).bind fun ν1 h1 => ?_
    dsimp only
    rw [if_neg (by omega), q_rank h1 hk1, sb]
    refine (q_j1 h1 hk1 f).bind fun ν2 h2 => ?_
    dsimp only
    rw [bnd_eq, e4, if_neg (show ¬ (1 : Int) = 0 by decide), if_neg (by omega)]
    refine (q_j1 h2 hk1 f).bind fun ν3 h3 => ?_
    dsimp only
    refine (q_j0 h3 hk1 f).bind fun ν4 h4 => ?_
    dsimp only
    refine (q_m0 h4 m).bind fun ν5 h5 => ?_
    dsimp only
    rw [if_pos rfl]
    refine (q_j2 h5 hk1 f).bind fun ν6 h6 => ?_
    dsimp only
    refine (q_j0 h6 hk1 f).bind fun ν7 h7 => ?_
    dsimp only
    refine (q_m1 h7 m).bind fun ν8 h8 => ?_
    dsimp only
    rw [if_pos rfl]
    refine (q_j3 h8 hk1 f).bind fun ν9 h9 => ?_
    dsimp only
    refine (q_j0 h9 hk1 f).bind fun ν10 h10 => ?_
    dsimp only
    refine (q_m2 h10 m).bind fun ν11 h11 => ?_
    dsimp only
    rw [if_pos rfl]
    refine (q_j4 h11 hk1 f).bind fun ν12 h12 => ?_
    dsimp only
    refine (q_j3 h12 hk1 f).bind fun ν13 h13 => ?_
    dsimp only
    have go : AN (xl_areAccountsSo_149 (xl_areAccountsSo_13 n) c (unF a (k + 1) 0) 0 k (a (9 + 2 * k)) 1 ν13) 1 (ST a ob t) := by
      rw [xl_areAccountsSo_149, bnd_eq, e3]
      exact ih (k + 1) n _ ν13 (by omega) (by omega) h13 (fun q h1 h2 => o.1 k q (by omega) h2)
    by_cases z : tau (sp a) (a (10 + 2 * k)) = 0
    · simp only [if_pos z]
      rw [xl_areAccountsSo_141, if_pos rfl]
      exact go
    · simp only [if_neg z]
      rw [xl_areAccountsSo_141, if_pos rfl]
      exact go
theorem acc_shelves {c u : Int} (o : OD a e) (fin : ∀ ν, ST a ob t ν → AN (xl_areAccountsSo_347 c u (a 8) 1 ν) 1 (ST a ob t)) (j : Nat) : ∀ (k n : Nat) (p : Int) (ν : Mem), (k : Int) + j = nsh a → j < n → ST a ob t ν → shv a k = nx a (tau (sp a)) p → -1 ≤ p → AN (xl_areAccountsSo_167 n c u (a 8 - gtF a (tau (sp a)) p (a 8).toNat) 1 p k ν) 1 (ST a ob t) := by
  have o7 := o.2.2.1
  induction j with
  | zero =>
    intro k n p ν hk hn h hs hp
    obtain ⟨n, rfl⟩ : ∃ m, n = m + 1 := ⟨n - 1, by omega⟩
    rw [xl_areAccountsSo_167]
    refine (q_c5 h).bind fun ν1 h1 => ?_
    dsimp only
    rw [if_pos (by omega)]
    have z : shv a k = -5 := Classical.byContradiction fun z => by have := (nsh_it a k).mpr z; omega
    rw [z] at hs
    rw [gt_none (a 8).toNat (fun q hq hlt => (nx_min hp hq hlt).1 hs.symm), show a 8 - ((0 : Nat) : Int) = a 8 by omega]
    exact fin ν1 h1
  | succ j ih =>
    intro k n p ν hk hn h hs hp
    obtain ⟨n, rfl⟩ : ∃ m, n = m + 1 := ⟨n - 1, by omega⟩
    have w8 := h.1.1.2.1
    have hk1 : shv a k ≠ -5 := (nsh_it a k).mp (by omega)
    have hns := nsh_b a
    obtain ⟨vM, vT, q, hq, hz⟩ := (shv_b h k).resolve_left hk1
    have hpv : p < shv a k := by
      rcases nx_b a (tau (sp a)) p with b | b
      · exact absurd (hs.trans b) hk1
      · rw [hs]; exact b.1
    have hnext : shv a (k + 1) = nx a (tau (sp a)) (shv a k) := by
      have := itN_next (a := a) (T := tau (sp a)) k (nx a (tau (sp a)) (-1))
      exact this.trans (if_neg hk1)
    have hsplit := gt_split (a := a) (T := tau (sp a)) hpv (a 8).toNat (fun r hr hlt => by rw [hs]; exact (nx_min hp hr hlt).2)
    have gl := gtF_le a (tau (sp a)) p (a 8).toNat
    have gl2 := gtF_le a (tau (sp a)) (shv a k) (a 8).toNat
    have hpos := cnF_pos (a := a) (T := tau (sp a)) hq hz
    have hfb := fjF_b a (tau (sp a)) (shv a k) (a 8).toNat 0
    have hfn := fjF_ne (a := a) (T := tau (sp a)) (v := shv a k) (a 8).toNat 0 ⟨q, by omega, by omega, hz⟩
    obtain ⟨hf1, hf2⟩ := fjF_at (a 8).toNat 0 hfn
    have hcb := chF_b a (tau (sp a)) (shv a k) (a 8).toNat 0 (-5) (Or.inl rfl)
    have hcn := chF_ne (a := a) (T := tau (sp a)) (v := shv a k) (a 8).toNat 0 (-5) (Or.inr ⟨q, by omega, by omega, hz⟩)
    obtain ⟨hc1, -, hc3⟩ := (chF_at (a := a) (T := tau (sp a)) (v := shv a k) (a 8).toNat 0 (-5) (Or.inl rfl)).resolve_left hcn
    have s1 := fun {ν : Mem} (h : ST a ob t ν) => q_s1 h hk1
    have s2 := fun {ν : Mem} (h : ST a ob t ν) => q_s2 h hk1
    have s3 := fun {ν : Mem} (h : ST a ob t ν) => q_s3 h hk1
    generalize fjF a (tau (sp a)) (shv a k) (a 8).toNat 0 = F at hfb hfn hf1 hf2 s2
    generalize chF a (tau (sp a)) (shv a k) (a 8).toNat 0 (-5) = C at hcb hcn hc1 hc3 s3
    have hF : (F.toNat : Int) < a 8 := by omega
    have hC : (C.toNat : Int) < a 8 := by omega
    have fF := fnd_at o hF
    have fC := fnd_at o hC
    have hc1' : tau (sp a) (a (10 + 2 * C.toNat)) = shv a k := hc1
    have hFC : F.toNat ≤ C.toNat := Nat.le_of_not_lt fun z => hf2 C.toNat (Nat.zero_le _) z hc1'
    have hpr : prc a (a (10 + 2 * C.toNat)) ≤ prc a (a (10 + 2 * F.toNat)) := hc3 F.toNat (by omega) (by omega) hf1
    have hnum : a (9 + 2 * F.toNat) ≤ a (9 + 2 * C.toNat) := by
      by_cases z : F.toNat = C.toNat
      · rw [z]; exact Int.le_refl _
      · exact Int.le_of_lt (o.1 _ _ (by omega) hC)
    have e3 : w32 ((k : Int) + 1) = ((k + 1 : Nat) : Int) := by rw [w32_eq (by omega) (by omega)]; omega
    have e4 : w32 (a 8 - gtF a (tau (sp a)) p (a 8).toNat + cnF a (tau (sp a)) (shv a k) (a 8).toNat 0) = a 8 - gtF a (tau (sp a)) (shv a k) (a 8).toNat := by
      rw [w32_eq (by omega) (by omega)]; omega
    rw [xl_areAccountsSo_167]
    refine (q_c5 h).bind fun ν1 h1 => ?_
    dsimp only
    rw [if_neg (by omega), if_neg (show ¬ (1 : Int) = 0 by decide)]
    refine (q_s0 h1 k).bind fun ν2 h2 => ?_
    dsimp only
    rw [if_neg (by omega)]
    refine (s1 h2).bind fun ν3 h3 => ?_
    dsimp only
    rw [if_neg (by omega)]
    refine (s2 h3).bind fun ν4 h4 => ?_
    dsimp only
    refine (q_j3 h4 hF fF).bind fun ν5 h5 => ?_
    dsimp only
    refine (q_s0 h5 k).bind fun ν6 h6 => ?_
    dsimp only
    rw [if_pos hf1]
    refine (s3 h6).bind fun ν7 h7 => ?_
    dsimp only
    refine (q_j3 h7 hC fC).bind fun ν8 h8 => ?_
    dsimp only
    refine (q_s0 h8 k).bind fun ν9 h9 => ?_
    dsimp only
    rw [if_pos hc1']
    refine (s3 h9).bind fun ν10 h10 => ?_
    dsimp only
    refine (q_j2 h10 hC fC).bind fun ν11 h11 => ?_
    dsimp only
    refine (s2 h11).bind fun ν12 h12 => ?_
    dsimp only
    refine (q_j2 h12 hF fF).bind fun ν13 h13 => ?_
    dsimp only
    rw [if_neg (by omega)]
    refine (s2 h13).bind fun ν14 h14 => ?_
    dsimp only
    refine (s3 h14).bind fun ν15 h15 => ?_
    dsimp only
    rw [if_neg (by omega)]
    refine (q_s0 h15 k).bind fun ν16 h16 => ?_
    dsimp only
    refine (q_m6 h16 vM).bind fun ν17 h17 => ?_
    dsimp only
    refine (s1 h17).bind fun ν18 h18 => ?_
    dsimp only
    rw [vT, if_pos rfl, xl_areAccountsSo_320]
    refine (q_s0 h18 k).bind fun ν19 h19 => ?_
    dsimp only
    rw [bnd_eq]
    refine (s1 h19).bind fun ν20 h20 => ?_
    dsimp only
    rw [bnd_eq, e4, bnd_eq, e3]
    exact ih (k + 1) n _ ν20 (by omega) (by omega) h20 hnext (by omega)
theorem acc_end {c : Int} {ν : Mem} (h : ST a ob t ν) (h0 : 0 ≤ t) (ht : t ≤ 100000000) (o : OD a e) (l : BL a) (hc : a 43 + a 58 + a 59 = c) : AN (xl_areAccountsSo_375 c (unF a (a 8).toNat 0) (a 8) 1 (p3 (sr a).toNat) ν) 1 (ST a ob t) := by
  have hw := h.1.1
  have w8 := hw.2.1
  have o7 := o.2.2.1
  have w43 := hw.2.2.2.2.2.2.1
  have w34 := hw.2.2.2.2.1
  have b52 := ab hw 52 (by omega) (by omega)
  have b53 := ab hw 53 (by omega) (by omega)
  have b54 := ab hw 54 (by omega) (by omega)
  have b55 := ab hw 55 (by omega) (by omega)
  have b58 := ab hw 58 (by omega) (by omega)
  have b59 := ab hw 59 (by omega) (by omega)
  have ub := unF_b a (a 8).toNat 0
  obtain ⟨r, hr, hs⟩ := sr_8 hw
  have hs34 : sr a ≤ a 34 := by have := (rk_b (rf a) (-5) (rn a)).2; unfold sr; unfold rn at this ⊢; omega
  have hn := nsh_b a
  obtain ⟨m, hm⟩ := Int.eq_ofNat_of_zero_le hn.1
  have hm5 : shv a m = -5 := Classical.byContradiction fun z => by have := (nsh_it a m).mpr z; omega
  have l1 := l.1
  have l2 : Int.tmod (a 53) 3 = 0 := Int.tmod_eq_zero_of_dvd (Int.dvd_of_emod_eq_zero l.2)
  have e1 : w32 (w32 (w32 (a 53 + a 54) + a 55) + unF a (a 8).toNat 0) = a 52 := by
    rw [w32_eq (x := a 53 + a 54) (by omega) (by omega), w32_eq (x := a 53 + a 54 + a 55) (by omega) (by omega), w32_eq (by omega) (by omega)]; omega
  have e2 : w32 (w32 (a 43 + a 58) + a 59) = c := by
    rw [w32_eq (x := a 43 + a 58) (by omega) (by omega), w32_eq (by omega) (by omega)]; omega
  have e3 : w32 (p3 (sr a).toNat * p3 (8 - (sr a).toNat)) = 6561 := by
    have := p3_89 ⟨r, by omega⟩
    rw [hs, Int.toNat_natCast, this, w32_eq (by decide) (by decide)]
  rw [xl_areAccountsSo_375, if_neg (show ¬ (1 : Int) = 0 by decide)]
  refine (q_c0 h).bind fun ν1 h1 => ?_
  dsimp only
  rw [if_pos rfl]
  refine (q_c11 h1).bind fun ν2 h2 => ?_
  dsimp only
  rw [if_pos rfl]
  refine (q_c7 h2).bind fun ν3 h3 => ?_
  dsimp only
  refine (q_c8 h3).bind fun ν4 h4 => ?_
  dsimp only
  refine (q_c9 h4).bind fun ν5 h5 => ?_
  dsimp only
  refine (q_c10 h5).bind fun ν6 h6 => ?_
  dsimp only
  rw [e1, if_pos rfl]
  refine (q_c8 h6).bind fun ν7 h7 => ?_
  dsimp only
  rw [if_pos l2]
  refine (q_c6 h7).bind fun ν8 h8 => ?_
  dsimp only
  refine (q_c14 h8).bind fun ν9 h9 => ?_
  dsimp only
  refine (q_c15 h9).bind fun ν10 h10 => ?_
  dsimp only
  rw [if_pos e2]
  refine (q_c3 h10).bind fun ν11 h11 => ?_
  dsimp only
  rw [if_pos rfl]
  refine (q_c3 h11).bind fun ν12 h12 => ?_
  dsimp only
  refine (q_c4 h12).bind fun ν13 h13 => ?_
  dsimp only
  rw [if_pos e3]
  refine (q_c2 h13).bind fun ν14 h14 => ?_
  dsimp only
  refine (q_c1 h14).bind fun ν15 h15 => ?_
  dsimp only
  rw [if_neg (by omega)]
  refine (q_c5 h15).bind fun ν16 h16 => ?_
  dsimp only
  rw [hm]
  refine (q_s0 h16 m).bind fun ν17 h17 => ?_
  dsimp only
  rw [if_pos hm5, xl_areAccountsSo_525, if_pos (Or.inr rfl)]
  exact AN.ret h17
theorem acc_pow {c u x : Int} (fin : ∀ ν, ST a ob t ν → AN (xl_areAccountsSo_375 c u x 1 (p3 (sr a).toNat) ν) 1 (ST a ob t)) (j : Nat) : ∀ (k n : Nat) (ν : Mem), (k : Int) + j = sr a → j < n → ST a ob t ν → AN (xl_areAccountsSo_353 n c u x 1 (p3 k) k ν) 1 (ST a ob t) := by
  induction j with
  | zero =>
    intro k n ν hk hn h
    obtain ⟨n, rfl⟩ : ∃ m, n = m + 1 := ⟨n - 1, by omega⟩
    rw [xl_areAccountsSo_353]
    refine (q_c2 h).bind fun ν1 h1 => ?_
    dsimp only
    rw [if_pos (by omega)]
    have := fin ν1 h1
    rwa [show (sr a).toNat = k by omega] at this
  | succ j ih =>
    intro k n ν hk hn h
    obtain ⟨n, rfl⟩ : ∃ m, n = m + 1 := ⟨n - 1, by omega⟩
    obtain ⟨r, hr, hs⟩ := sr_8 h.1.1
    have e3 : w32 ((k : Int) + 1) = ((k + 1 : Nat) : Int) := by rw [w32_eq (by omega) (by omega)]; omega
    have hp := p3_le (k := k) (by omega)
    have hp0 := p3_pos k
    have e4 : w32 (p3 k * 3) = p3 (k + 1) := by rw [w32_eq (by omega) (by omega), p3]; omega
    rw [xl_areAccountsSo_353]
    refine (q_c2 h).bind fun ν1 h1 => ?_
    dsimp only
    rw [if_neg (by omega), bnd_eq, e4, bnd_eq, e3]
    exact ih (k + 1) n ν1 (by omega) (by omega) h1
theorem l_accounts {c : Int} {ν : Mem} (h : ST a ob t ν) (h0 : 0 ≤ t) (ht : t ≤ 100000000) (o : OD a e) (l : BL a) (hc : a 43 + a 58 + a 59 = c) : AN (xl_areAccountsSo c ν) 1 (ST a ob t) := by
  have hw := h.1.1
  have w8 := hw.2.1
  have o7 := o.2.2.1
  rw [xl_areAccountsSo]
  refine acc_jars o (fun ν1 h1 => ?_) (a 8).toNat 0 FU (-1) ν (by omega) (by have := FU_ge; omega) h (fun q _ hq => by have := (hw.2.2.1 q hq).2; omega)
  rw [xl_areAccountsSo_161]
  have hn := nsh_b a
  have hg : gtF a (tau (sp a)) (-1) (a 8).toNat = (a 8).toNat := gt_all _ (fun q hq => by
    have := (tau_is (sp_sg a) (hw.2.2.1 q (by omega)).1).1.1
    omega)
  have e0 : a 8 - gtF a (tau (sp a)) (-1) (a 8).toNat = 0 := by rw [hg]; omega
  have g := acc_shelves (ob := ob) (t := t) (c := c) (u := unF a (a 8).toNat 0) o (fun ν2 h2 => ?_) (nsh a).toNat 0 FU (-1) ν1 (by omega) (by have := FU_ge; omega) h1 rfl (by omega)
  · rw [e0] at g
    exact g
  · rw [xl_areAccountsSo_347]
    exact acc_pow (fun ν3 h3 => acc_end h3 h0 ht o l hc) (sr a).toNat 0 FU ν2 (by have := sr_nn a; omega) (by have := FU_ge; obtain ⟨r, hr, hs⟩ := sr_8 hw; omega) h2
end ACC
