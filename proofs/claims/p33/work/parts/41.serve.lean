/-! rules made; serving -/
/-! the first jar of a taste -/
def fjF (a : Nat → Int) (T : Int → Int) (v : Int) : Nat → Nat → Int
  | 0, _ => -5
  | j + 1, k => if T (a (10 + 2 * k)) = v then (k : Int) else fjF a T v j (k + 1)
theorem fjF_b (a : Nat → Int) (T : Int → Int) (v : Int) (j : Nat) : ∀ k, fjF a T v j k = -5 ∨ ((k : Int) ≤ fjF a T v j k ∧ fjF a T v j k < ((k + j : Nat) : Int)) := by
  induction j with
  | zero => intro k; exact Or.inl rfl
  | succ j ih =>
    intro k
    unfold fjF
    split
    · right; omega
    · rcases ih (k + 1) with h | h
      · exact Or.inl h
      · right; omega
noncomputable def sServe (a : Nat → Int) : Int × (Nat → Int) := if a 43 = 0 then (-5, a) else if fjF (drw a) (tau (sp a)) (tau (sp a) (a 44)) (a 8).toNat 0 = -5 then (0, up (drw a) 59 (drw a 59 + 1)) else sSell (drw a) (fjF (drw a) (tau (sp a)) (tau (sp a) (a 44)) (a 8).toNat 0)
theorem xfj_lp {ν : Mem} {b : Nat → Int} {r : Nat → Int} {k0 : Nat} {t v : Int} (w : Wf b t) (S : SRel b ν 10) (L : LK ν r k0) (j : Nat) : ∀ (k n : Nat), (k : Int) + j = b 8 → j < n → xt_firstJarLike_2 n v k ν = some (fjF b (tau (spn r (-5) k0)) v j k) := by
  have w8 := w.2.1
  induction j with
  | zero =>
    intro k n hk hn
    obtain ⟨n, rfl⟩ : ∃ m, n = m + 1 := ⟨n - 1, by omega⟩
    rw [xt_firstJarLike_2, S.1, if_pos (by omega), xt_firstJarLike_32, fjF]
  | succ j ih =>
    intro k n hk hn
    obtain ⟨n, rfl⟩ : ∃ m, n = m + 1 := ⟨n - 1, by omega⟩
    have e3 : w32 ((k : Int) + 1) = ((k + 1 : Nat) : Int) := by rw [w32_eq (by omega) (by omega)]; omega
    have hm : isM (b (10 + 2 * k)) := (w.2.2.1 k (by omega)).1
    rw [xt_firstJarLike_2, S.1, if_neg (by omega), aget_eq (by omega) (by omega), sb, Int.toNat_natCast, (S.2.2.2.2.1 k (by omega)).2, leastLike_eq L hm, sb, fjF]
    by_cases c : tau (spn r (-5) k0) (b (10 + 2 * k)) = v
    · rw [if_pos c, if_pos c, xt_firstJarLike_24]
    · rw [if_neg c, if_neg c, bnd_eq, e3]
      exact ih (k + 1) n (by omega) (by omega)
theorem xserve_eq {ν : Mem} {a : Nat → Int} {t : Int} (S : SRel a ν 10) (T : TI ν) (w : Wf a t) (h0 : 0 ≤ t) (ht : t ≤ 1000000000) : ∃ ν', xa_serveFirst ν = some ((sServe a).1, ν') ∧ SRel (sServe a).2 ν' 10 ∧ XF ν ν' ∧ TI ν' := by
  have h43 := w.2.2.2.2.2.2.1
  have h34 := w.2.2.2.2.1
  rw [xa_serveFirst, S.2.2.2.1, sServe]
  by_cases c : a 43 = 0
  · rw [if_pos c, if_pos c]
    exact ⟨ν, rfl, S, XF_rf ν, T⟩
  · have wd := Wf_drw w (by omega)
    have hd8 : drw a 8 = a 8 := drw_o (by omega) h43.2 (by omega)
    have m44 : isM (a 44) := w.2.2.2.2.2.2.2.1 0 (by omega)
    rw [if_neg c, if_neg c]
    obtain ⟨ν1, e1, S1, f1⟩ := xremWant_eq S w (by omega)
    obtain ⟨ν2, e2, L2, f2⟩ := learn_a wd S1 (TI_fr f1 T)
    have L3 : LK ν2 (rf a) (rn a) := by
      have h := LK_cong (r := rf a) L2 (fun p hp => by
        unfold rf rn at *
        rw [drw_o (by omega) h43.2 (by omega)] at hp
        exact (drw_o (by omega) h43.2 (by omega)).symm)
      have e : rn (drw a) = rn a := by unfold rn; rw [drw_o (by omega) h43.2 (by omega)]
      rwa [e] at h
    have S2 : SRel (drw a) ν2 10 := SRel_fr S1 (fun p q h1 h2 => f2 p q (by omega) (by omega) (by omega) (by omega))
    have F2 : XF ν ν2 := XF_tr (fr_XF f1) (l_XF f2)
    have hf := xfj_lp (v := tau (sp a) (a 44)) wd S2 L3 (a 8).toNat 0 FU (by have := w.2.1; omega) (by have := FU_ge; have := w.2.1; omega)
    rw [show ((0 : Nat) : Int) = 0 from rfl, show spn (rf a) (-5) (rn a) = sp a from rfl] at hf
    have hb := fjF_b (drw a) (tau (sp a)) (tau (sp a) (a 44)) (a 8).toNat 0
    have hl := leastLike_eq L3 m44
    rw [show spn (rf a) (-5) (rn a) = sp a from rfl] at hl
    rw [e1, sb, bnd_eq, e2, sb, hl, sb, xt_firstJarLike, hf, sb]
    by_cases c2 : fjF (drw a) (tau (sp a)) (tau (sp a) (a 44)) (a 8).toNat 0 = -5
    · have t59 := ab wd 59 (by omega) (by omega)
      rw [if_pos c2, if_neg (by omega), bnd_eq, show ν2 16 7 = drw a 59 from sacc S2 (by omega), w32_eq (by omega) (by omega)]
      have f3 : fr ν2 (mst ν2 16 7 (drw a 59 + 1)) := fr_mst (fr_rf ν2) (by omega)
      exact ⟨_, rfl, srel_acc S2 (wf3 wd) (k := 7) (by omega) _, XF_tr F2 (fr_XF f3), TI_fr f3 ⟨_, _, L3⟩⟩
    · rw [if_neg c2, if_pos (by omega)]
      obtain ⟨ν3, e3, S3, f3⟩ := xsell_eq (k := fjF (drw a) (tau (sp a)) (tau (sp a) (a 44)) (a 8).toNat 0) S2 wd h0 ht (by have := w.2.1; omega)
      rw [e3, sb]
      exact ⟨ν3, rfl, S3, XF_tr F2 (fr_XF f3), TI_fr f3 ⟨_, _, L3⟩⟩
theorem Wf_sServe {a : Nat → Int} {t : Int} (w : Wf a t) (h0 : 0 ≤ t) : Wf (sServe a).2 (t + 10000) := by
  have h43 := w.2.2.2.2.2.2.1
  have w8 := w.2.1
  rw [sServe]
  by_cases c : a 43 = 0
  · rw [if_pos c]; exact Wf_mono w (by omega)
  · have wd := Wf_drw w (by omega)
    have hd8 : drw a 8 = a 8 := drw_o (by omega) h43.2 (by omega)
    have hb := fjF_b (drw a) (tau (sp a)) (tau (sp a) (a 44)) (a 8).toNat 0
    have t59 := ab wd 59 (by omega) (by omega)
    rw [if_neg c]
    split
    · exact Wf_acu wd (by omega) (by omega) (by omega)
    · exact Wf_sSell wd h0 (by omega)
theorem sServe_s {a : Nat → Int} {t : Int} (w : Wf a t) : (sServe a).1 < 0 → (sServe a).2 = a := by
  have h43 := w.2.2.2.2.2.2.1
  rw [sServe]
  by_cases c : a 43 = 0
  · rw [if_pos c]; intro _; rfl
  · have wd := Wf_drw w (by omega)
    rw [if_neg c]
    split
    · intro h; exact absurd h (by show ¬ (0 : Int) < 0; decide)
    · intro h
      exfalso
      rw [sSell] at h
      have p1 := prc_b wd.1 (mixA (drw a) (fjF (drw a) (tau (sp a)) (tau (sp a) (a 44)) (a 8).toNat 0))
      have h2 : prc (drw a) (mixA (drw a) (fjF (drw a) (tau (sp a)) (tau (sp a) (a 44)) (a 8).toNat 0)) + prc (drw a) (mixA (drw a) (fjF (drw a) (tau (sp a)) (tau (sp a) (a 44)) (a 8).toNat 0)) / 2 < 0 := h
      omega