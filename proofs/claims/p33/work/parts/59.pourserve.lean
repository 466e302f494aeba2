/-! the law: pouring and serving, and taking them back -/
theorem fjF_cong {a b : Nat → Int} {T : Int → Int} {v : Int} (j : Nat) : ∀ k, (∀ q, k ≤ q → q < k + j → b (10 + 2 * q) = a (10 + 2 * q)) → fjF b T v j k = fjF a T v j k := by
  induction j with
  | zero => intro k _; rfl
  | succ j ih =>
    intro k h
    rw [fjF, fjF, h k (Nat.le_refl k) (by omega), ih (k + 1) (fun q h1 h2 => h q (by omega) (by omega))]
section PS
variable {a : Nat → Int} {ob : Option (Nat → Int)} {t e : Int}
theorem sp_cong {b : Nat → Int} (h34 : b 34 = a 34) (w34 : a 34 ≤ 8) (hr : ∀ j : Nat, j < 8 → b (35 + j) = a (35 + j)) (x : Int) : sp b x ↔ sp a x := by
  have hn : rn b = rn a := by unfold rn; rw [h34]
  unfold sp
  rw [hn]
  exact spn_cong (r := rf b) (q := rf a) (-5) (rn a) (fun j hj => hr j (by unfold rn at hj; omega)) x
theorem pour_fin {x : Int} {ν : Mem} (h : ST a (some a) t ν) (hx : a 53 = x) : AN (xl_isPourSo_152 x 1 ν) 1 (ST a none t) := by
  obtain ⟨s, s0, u⟩ := a_undo h
  rw [xl_isPourSo_152]
  refine u.bind fun ν1 h1 => ?_
  dsimp only
  rw [bnd_eq, if_neg (show ¬ (1 : Int) = 0 by decide), if_neg (by omega)]
  refine (q_c8 h1).bind fun ν2 h2 => ?_
  dsimp only
  rw [if_pos hx, xl_isPourSo_186, if_pos (Or.inr rfl)]
  exact AN.ret h2
theorem undo_of {x : Int} {b : Nat → Int} {ν : Mem} (h : ST b (some a) t ν) (hx : a 53 = x) : AN (xl_isPourSo_152 x 1 ν) 1 (ST a none t) := by
  obtain ⟨s, s0, u⟩ := a_undo h
  rw [xl_isPourSo_152]
  refine u.bind fun ν1 h1 => ?_
  dsimp only
  rw [bnd_eq, if_neg (show ¬ (1 : Int) = 0 by decide), if_neg (by omega)]
  refine (q_c8 h1).bind fun ν2 h2 => ?_
  dsimp only
  rw [if_pos hx, xl_isPourSo_186, if_pos (Or.inr rfl)]
  exact AN.ret h2
theorem l_pour {i j : Nat} {ν : Mem} (h : ST a ob t ν) (h0 : 0 ≤ t) (ht : t ≤ 100000000) (o : OD a e) (l : BL a) (hi : (i : Int) < a 8) (hj : (j : Int) < a 8) (hij : i ≠ j) : AN (xl_isPourSo (a (9 + 2 * i)) (a (9 + 2 * j)) ν) 1 (ST a none (t + 100000)) := by
  have hw := h.1.1
  have w8 := hw.2.1
  have o7 := o.2.2.1
  have fi := fnd_at o hi
  have fj := fnd_at o hj
  have mi := (hw.2.2.1 i hi).1
  have mj := (hw.2.2.1 j hj).1
  have mM := mx_isM (a (10 + 2 * i)) (a (10 + 2 * j))
  have u1 := un_b (a (10 + 2 * i))
  have u2 := un_b (a (10 + 2 * j))
  have u3 := un_b (mx (a (10 + 2 * i)) (a (10 + 2 * j)))
  have u4 := un_mx (a (10 + 2 * i)) (a (10 + 2 * j))
  have b53 := ab hw 53 (by omega) (by omega)
  have eg : w32 (w32 (un (a (10 + 2 * i)) + un (a (10 + 2 * j))) - un (mx (a (10 + 2 * i)) (a (10 + 2 * j)))) = un (a (10 + 2 * i)) + un (a (10 + 2 * j)) - un (mx (a (10 + 2 * i)) (a (10 + 2 * j))) := by
    rw [w32_eq (x := un (a (10 + 2 * i)) + un (a (10 + 2 * j))) (by omega) (by omega), w32_eq (by omega) (by omega)]
  have spe := sPours_at fi fj hij
  rw [xl_isPourSo]
  refine (q_ifp h hi fi hj fj hij).bind fun ν1 h1 => ?_
  dsimp only
  rw [bnd_eq]
  refine (q_j0 h1 hi fi).bind fun ν2 h2 => ?_
  dsimp only
  refine (q_j0 h2 hj fj).bind fun ν3 h3 => ?_
  dsimp only
  rw [q_tog h3 mi mj, sb]
  refine (q_j1 h3 hi fi).bind fun ν4 h4 => ?_
  dsimp only
  refine (q_j1 h4 hj fj).bind fun ν5 h5 => ?_
  dsimp only
  refine (q_m0 h5 mM).bind fun ν6 h6 => ?_
  dsimp only
  rw [eg, bnd_eq]
  refine (q_c8 h6).bind fun ν7 h7 => ?_
  dsimp only
  rw [bnd_eq]
  by_cases k : a (10 + 2 * i) = 0
  · rw [if_pos k] at spe
    have hv : (sPours a (a (9 + 2 * i)) (a (9 + 2 * j))).1 = -5 := by rw [spe]
    refine (a_pourN h7 (by omega) (by omega)).bind fun ν8 h8 => ?_
    dsimp only
    rw [hv, bnd_eq, if_pos rfl]
    refine (q_j0 h8 hi fi).bind fun ν9 h9 => ?_
    dsimp only
    rw [if_pos k]
    refine (q_j3 h9 hj fj).bind fun ν10 h10 => ?_
    dsimp only
    rw [if_pos (by rw [k, mx_zero' mj]), xl_isPourSo_95, if_pos (Or.inr rfl)]
    exact AN.ret h10
  · rw [if_neg k] at spe
    have hr := r_pour o7 o l hi hj hij rfl
    have hv : (sPours a (a (9 + 2 * i)) (a (9 + 2 * j))).1 = un (a (10 + 2 * i)) + un (a (10 + 2 * j)) - un (mx (a (10 + 2 * i)) (a (10 + 2 * j))) := by rw [spe]
    have hst : ∀ ν, ST (sPours a (a (9 + 2 * i)) (a (9 + 2 * j))).2 (some a) (t + 100000) ν → ST (up (up (up a (10 + 2 * i) 0) (10 + 2 * j) (mx (a (10 + 2 * i)) (a (10 + 2 * j)))) 53 (a 53 + (un (a (10 + 2 * i)) + un (a (10 + 2 * j)) - un (mx (a (10 + 2 * i)) (a (10 + 2 * j)))))) (some a) (t + 100000) ν := fun ν h => by rw [spe] at h; exact h
    refine (a_pour h7 h0 (by omega) (by omega)).bind fun ν8 h8' => ?_
    have h8 := hst ν8 h8'
    dsimp only
    rw [hv, bnd_eq, if_neg (by omega), if_pos rfl]
    generalize hb : up (up (up a (10 + 2 * i) 0) (10 + 2 * j) (mx (a (10 + 2 * i)) (a (10 + 2 * j)))) 53 (a 53 + (un (a (10 + 2 * i)) + un (a (10 + 2 * j)) - un (mx (a (10 + 2 * i)) (a (10 + 2 * j))))) = b at h8 hr
    have c53 : b 53 = a 53 + (un (a (10 + 2 * i)) + un (a (10 + 2 * j)) - un (mx (a (10 + 2 * i)) (a (10 + 2 * j)))) := by rw [← hb, up_same]
    have bo : ∀ q : Nat, q ≠ 53 → q ≠ 10 + 2 * i → q ≠ 10 + 2 * j → b q = a q := fun q h1 h2 h3 => by rw [← hb, up_ne h1, up_ne h3, up_ne h2]
    have bi : b (10 + 2 * i) = 0 := by rw [← hb, up_ne (by omega), up_ne (by omega), up_same]
    have bj : b (10 + 2 * j) = mx (a (10 + 2 * i)) (a (10 + 2 * j)) := by rw [← hb, up_ne (by omega), up_same]
    have b8 : b 8 = a 8 := bo 8 (by omega) (by omega) (by omega)
    have gi : fnd b (a (9 + 2 * i)) = i := by rw [← bo (9 + 2 * i) (by omega) (by omega) (by omega)]; exact fnd_at hr.1 (by omega)
    have gj : fnd b (a (9 + 2 * j)) = j := by rw [← bo (9 + 2 * j) (by omega) (by omega) (by omega)]; exact fnd_at hr.1 (by omega)
    have hsp := fun x => sp_cong (a := a) (b := b) (bo 34 (by omega) (by omega) (by omega)) hw.2.2.2.2.1.2 (fun q hq => bo _ (by omega) (by omega) (by omega)) x
    refine (q_j0 h8 (i := j) (by omega) gj).bind fun ν9 h9 => ?_
    dsimp only
    rw [if_pos bj]
    refine (q_j3 h9 (i := j) (by omega) gj).bind fun ν10 h10 => ?_
    dsimp only
    rw [if_pos (by rw [bj]; exact tau_cong hsp (sp_sg b) mM)]
    refine (q_j0 h10 (i := i) (by omega) gi).bind fun ν11 h11 => ?_
    dsimp only
    rw [if_pos bi]
    refine (q_c8 h11).bind fun ν12 h12 => ?_
    dsimp only
    rw [if_pos (by rw [c53, w32_eq (by omega) (by omega)])]
    exact undo_of h12 rfl
theorem sServe_no (c : 0 < a 43) (w43 : a 43 ≤ 8) (h8 : a 8 ≤ 12) (hf : fjF a (tau (sp a)) (tau (sp a) (a 44)) (a 8).toNat 0 = -5) : sServe a = (0, up (drw a) 59 (drw a 59 + 1)) := by
  rw [sServe, if_neg (by omega), if_pos]
  rw [fjF_cong (a := a) (b := drw a) (a 8).toNat 0 (fun q _ hq => drw_o c w43 (by omega))]
  exact hf
theorem sServe_yes (c : 0 < a 43) (w43 : a 43 ≤ 8) (h8 : a 8 ≤ 12) {k : Int} (hf : fjF a (tau (sp a)) (tau (sp a) (a 44)) (a 8).toNat 0 = k) (hk : k ≠ -5) : sServe a = sSell (drw a) k := by
  have e := fjF_cong (a := a) (b := drw a) (T := tau (sp a)) (v := tau (sp a) (a 44)) (a 8).toNat 0 (fun q _ hq => drw_o c w43 (by omega))
  rw [sServe, if_neg (by omega), e, hf, if_neg hk]
theorem serve_fin {x : Int} {b : Nat → Int} {ν : Mem} (h : ST b (some a) t ν) (hx : (if a 43 ≤ 0 then -5 else a 44) = x) : AN (xl_isServeSo_192 x ν) 1 (ST a none t) := by
  obtain ⟨s, s0, u⟩ := a_undo h
  rw [xl_isServeSo_192, xl_isServeSo_197]
  refine u.bind fun ν1 h1 => ?_
  dsimp only
  rw [bnd_eq, if_neg (show ¬ (1 : Int) = 0 by decide), if_neg (by omega), q_wait0 h1, sb, if_pos hx, xl_isServeSo_229, if_pos (Or.inr rfl)]
  exact AN.ret h1
theorem serve_98 {x jn pr : Int} {ν : Mem} (h : ST a ob t ν) (h0 : 0 ≤ t) (ht : t ≤ 100000000) (hx : (if a 43 ≤ 0 then -5 else a 44) = x) (hv : (sServe a).1 = pr) (hp0 : 0 ≤ pr ∧ pr ≤ 100000) (h57 : (sServe a).2 57 = a 57 + pr) (h58 : (sServe a).2 58 = a 58 + (if 0 ≤ jn then 1 else 0)) (h43 : (sServe a).2 43 = a 43 - 1) (hj : jn < 0 ∨ (0 ≤ jn ∧ fnd (sServe a).2 jn = -5)) : AN (xl_isServeSo_98 x jn pr ν) 1 (ST a none (t + 100000)) := by
  have hw := h.1.1
  have b57 := ab hw 57 (by omega) (by omega)
  have b58 := ab hw 58 (by omega) (by omega)
  have w43 := hw.2.2.2.2.2.2.1
  rw [xl_isServeSo_98]
  refine (q_c13 h).bind fun ν1 h1 => ?_
  dsimp only
  rw [bnd_eq]
  refine (q_c14 h1).bind fun ν2 h2 => ?_
  dsimp only
  rw [bnd_eq]
  refine (q_c6 h2).bind fun ν3 h3 => ?_
  dsimp only
  rw [bnd_eq]
  refine (a_serve h3 h0 (by omega) (by omega)).bind fun ν4 h4 => ?_
  dsimp only
  rw [if_pos hv]
  refine (q_c13 h4).bind fun ν5 h5 => ?_
  dsimp only
  rw [if_pos (by rw [h57, w32_eq (by omega) (by omega)])]
  refine (q_c14 h5).bind fun ν6 h6 => ?_
  dsimp only
  rcases hj with hj | ⟨hj, hf⟩
  · rw [if_neg (by omega)] at h58
    rw [if_neg (by omega), xl_isServeSo_161, if_pos (by rw [h58, w32_eq (by omega) (by omega)])]
    refine (q_c6 h6).bind fun ν7 h7 => ?_
    dsimp only
    rw [if_pos (by rw [h43, w32_eq (by omega) (by omega)]), if_pos hj]
    exact serve_fin h7 hx
  · rw [if_pos hj] at h58
    rw [if_pos hj, xl_isServeSo_161, if_pos (by rw [h58, w32_eq (by omega) (by omega)])]
    refine (q_c6 h6).bind fun ν7 h7 => ?_
    dsimp only
    rw [if_pos (by rw [h43, w32_eq (by omega) (by omega)]), if_neg (by omega)]
    refine (q_jU h7 hf).bind fun ν8 h8 => ?_
    dsimp only
    rw [if_pos rfl]
    exact serve_fin h8 hx
theorem serve_lp {x : Int} (o : OD a e) (hx : isM x) (fin : ∀ ν, ST a ob t ν → AN (xl_isServeSo_75 x (if fjF a (tau (sp a)) (tau (sp a) x) (a 8).toNat 0 = -5 then -1 else a (9 + 2 * (fjF a (tau (sp a)) (tau (sp a) x) (a 8).toNat 0).toNat)) ν) 1 (ST a none (t + 100000))) (k : Nat) : ∀ (j n : Nat) (ν : Mem), (k : Int) + j = a 8 → k < n → ST a ob t ν → AN (xl_isServeSo_35 n x (if fjF a (tau (sp a)) (tau (sp a) x) j k = -5 then -1 else a (9 + 2 * (fjF a (tau (sp a)) (tau (sp a) x) j k).toNat)) ((k : Int) - 1) ν) 1 (ST a none (t + 100000)) := by
  have o7 := o.2.2.1
  induction k with
  | zero =>
    intro j n ν hk hn h
    obtain ⟨n, rfl⟩ : ∃ m, n = m + 1 := ⟨n - 1, by omega⟩
    rw [xl_isServeSo_35, if_pos (by omega)]
    have := fin ν h
    rwa [show (a 8).toNat = j by omega] at this
  | succ k ih =>
    intro j n ν hk hn h
    obtain ⟨n, rfl⟩ : ∃ m, n = m + 1 := ⟨n - 1, by omega⟩
    have hk1 : (k : Int) < a 8 := by omega
    have f := fnd_at o hk1
    have m := (h.1.1.2.2.1 k hk1).1
    have ek : ((k + 1 : Nat) : Int) - 1 = (k : Int) := by omega
    have e3 : w32 ((k : Int) + (-1)) = (k : Int) - 1 := by rw [w32_eq (by omega) (by omega)]; omega
    have i := fun ν' (h' : ST a ob t ν') => ih (j + 1) n ν' (by omega) (by omega) h'
    rw [xl_isServeSo_35, ek, if_neg (by omega), q_rank h hk1, sb]
    refine (q_j0 h hk1 f).bind fun ν1 h1 => ?_
    dsimp only
    refine (q_alT h1 hx m).bind fun ν2 h2 => ?_
    dsimp only
    have i2 := i ν2 h2
    rw [fjF] at i2
    by_cases z : tau (sp a) (a (10 + 2 * k)) = tau (sp a) x
    · rw [if_pos z, if_neg (show ¬ (k : Int) = -5 by omega), Int.toNat_natCast] at i2
      rw [if_pos z.symm, if_pos rfl, q_rank h2 hk1, sb, xl_isServeSo_68, bnd_eq, e3]
      exact i2
    · rw [if_neg z] at i2
      have z' : ¬ tau (sp a) x = tau (sp a) (a (10 + 2 * k)) := fun y => z y.symm
      rw [if_neg z', if_neg (show ¬ (0 : Int) = 1 by decide), xl_isServeSo_68, bnd_eq, e3]
      exact i2
theorem l_serve {ν : Mem} (h : ST a ob t ν) (h0 : 0 ≤ t) (ht : t ≤ 100000000) (o : OD a e) (l : BL a) : AN (xl_isServeSo ν) 1 (ST a none (t + 100000)) := by
  have hw := h.1.1
  have w8 := hw.2.1
  have o7 := o.2.2.1
  have w43 := hw.2.2.2.2.2.2.1
  rw [xl_isServeSo, q_wait0 h, sb]
  by_cases c : a 43 ≤ 0
  · rw [if_pos c, if_neg (by decide)]
    have hv : (sServe a).1 = -5 := by rw [sServe, if_pos (by omega)]
    refine (a_serveN h h0 (by omega) (by omega)).bind fun ν1 h1 => ?_
    dsimp only
    rw [if_pos hv, xl_isServeSo_24, if_pos (Or.inr rfl)]
    exact AN.ret h1
  · have mw := hw.2.2.2.2.2.2.2.1 0 (by omega)
    rw [show 44 + 0 = 44 from rfl] at mw
    have hx : (if a 43 ≤ 0 then -5 else a 44) = a 44 := if_neg c
    rw [if_neg c, if_pos mw.1]
    refine (q_c0 h).bind fun ν1 h1 => ?_
    dsimp only
    rw [bnd_eq, w32_eq (by omega) (by omega)]
    have g := serve_lp (ob := ob) (t := t) (x := a 44) o mw (fun ν2 h2 => ?_) (a 8).toNat 0 FU ν1 (by omega) (by have := FU_ge; omega) h1
    · rw [fjF, if_pos rfl, show (((a 8).toNat : Nat) : Int) - 1 = a 8 - 1 by omega] at g
      exact g
    · have hb := fjF_b a (tau (sp a)) (tau (sp a) (a 44)) (a 8).toNat 0
      have hno := sServe_no (a := a) (by omega) w43.2 (by omega)
      have hye := fun k hk => sServe_yes (a := a) (by omega) w43.2 (by omega) (k := k) hk
      generalize fjF a (tau (sp a)) (tau (sp a) (a 44)) (a 8).toNat 0 = F at hb hno hye
      have dro : ∀ q : Nat, (q < 43 ∨ 52 ≤ q) → drw a q = a q := fun q hq => drw_o (by omega) w43.2 hq
      by_cases z : F = -5
      · have hs := hno z
        rw [if_pos z, xl_isServeSo_75, if_neg (by decide)]
        refine serve_98 h2 h0 ht hx (by rw [hs]) (by omega) ?_ ?_ ?_ (Or.inl (by decide))
        · rw [hs]; show up (drw a) 59 (drw a 59 + 1) 57 = _; rw [up_ne (by omega), dro _ (by omega)]; omega
        · rw [hs, if_neg (by decide)]; show up (drw a) 59 (drw a 59 + 1) 58 = _; rw [up_ne (by omega), dro _ (by omega)]; omega
        · rw [hs]; show up (drw a) 59 (drw a 59 + 1) 43 = _; rw [up_ne (by omega), drw_43]
      · have hF := hb.resolve_left z
        obtain ⟨k, rfl⟩ := Int.eq_ofNat_of_zero_le (show 0 ≤ F by omega)
        have hs := hye k rfl z
        have hk1 : (k : Int) < a 8 := by omega
        have f := fnd_at o hk1
        have hnn := (hw.2.2.1 k hk1).2
        have hm : mixA (drw a) (k : Int) = a (10 + 2 * k) := by unfold mixA; rw [Int.toNat_natCast]; exact dro _ (by omega)
        have hp : prc (drw a) (a (10 + 2 * k)) = prc a (a (10 + 2 * k)) := prc_cong (fun q hq => dro q (by omega)) _
        have pb := prc_b hw.1 (a (10 + 2 * k))
        rw [sSell, hm, hp] at hs
        rw [if_neg z, Int.toNat_natCast, xl_isServeSo_75, if_pos hnn]
        refine (q_j2 h2 hk1 f).bind fun ν3 h3 => ?_
        dsimp only
        refine (q_j2 h3 hk1 f).bind fun ν4 h4 => ?_
        dsimp only
        rw [half (by omega), w32_eq (by omega) (by omega)]
        generalize hb2 : up (up (up (drw a) 54 (drw a 54 + un (a (10 + 2 * k)))) 57 (drw a 57 + (prc a (a (10 + 2 * k)) + prc a (a (10 + 2 * k)) / 2))) 58 (drw a 58 + 1) = b at hs
        have b8 : b 8 = a 8 := by rw [← hb2, up_ne (by omega), up_ne (by omega), up_ne (by omega), dro _ (by omega)]
        have hk' : (0 : Int) ≤ k ∧ (k : Int) < b 8 := by omega
        have bn : ∀ q : Nat, (q : Int) < 7 → b (9 + 2 * q) = a (9 + 2 * q) := fun q hq => by rw [← hb2, up_ne (by omega), up_ne (by omega), up_ne (by omega), dro _ (by omega)]
        refine serve_98 h4 h0 ht hx (by rw [hs]) (by omega) ?_ ?_ ?_ (Or.inr ⟨hnn, ?_⟩)
        · rw [hs]; show drp b k 57 = _
          rw [drp_o hk' (by omega) (by omega), ← hb2, up_ne (by omega), up_same, dro _ (by omega)]
        · rw [hs, if_pos hnn]; show drp b k 58 = _
          rw [drp_o hk' (by omega) (by omega), ← hb2, up_same, dro _ (by omega)]
        · rw [hs]; show drp b k 43 = _
          rw [drp_o hk' (by omega) (by omega), ← hb2, up_ne (by omega), up_ne (by omega), up_ne (by omega), drw_43]
        · rw [hs]; show fndF (drp b k) (a (9 + 2 * k)) (drp b k 8).toNat 0 = -5
          refine fndF_no _ 0 (fun q _ hq => ?_)
          rw [drp_8] at hq
          rw [(drp_j hk' (by omega) q (by omega)).1]
          split
          · rw [bn _ (by omega)]
            have := o.1 k (q + 1) (by omega) (by omega)
            omega
          · rw [bn _ (by omega)]
            have := o.1 q k (by omega) (by omega)
            omega
end PS
