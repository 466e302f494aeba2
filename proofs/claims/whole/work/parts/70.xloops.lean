section TXT16
variable {tx : Nat → Int} {len : Nat}
theorem XP_XF {ν ν' : Mem} (h : XP ν ν') : XF ν ν' := ⟨fun q => h _ _ (by omega) (by omega), fun p q h1 h2 => h _ _ (by omega) (by omega), h _ _ (by omega) (by omega), fun q => h _ _ (by omega) (by omega)⟩
theorem XT_XF {ν ν' : Mem} (h : XT tx len ν) (f : XF ν ν') : XT tx len ν' := ⟨by rw [f.2.2.1]; exact h.1, h.2.1, fun i hi => by rw [f.2.2.2]; exact h.2.2 i hi⟩
theorem TI_XP {ν ν' : Mem} (h : XP ν ν') (T : TI ν) : TI ν' := by
  obtain ⟨r, k, L⟩ := T
  exact ⟨r, k, LK_fr L (fun q => h _ _ (by omega) (by omega)) (fun q => h _ _ (by omega) (by omega)) (fun q => h _ _ (by omega) (by omega)) (fun q => h _ _ (by omega) (by omega)) (fun q => h _ _ (by omega) (by omega))⟩
theorem SRel_XP {a : Nat → Int} {ν ν' : Mem} (h : XP ν ν') (S : SRel a ν 10) : SRel a ν' 10 := SRel_fr S (fun p q _ _ => h p q (by omega) (by omega))
theorem xpa_lp (f : Nat) : ∀ (p n : Nat) (x2 : Int) (ν : Mem) (a : Nat → Int) (t : Int), p ≤ len → len < p + f → f < n → 0 ≤ x2 → x2 ≤ p → len ≤ 60 → Wf a t → 0 ≤ t → t + 25000 * ((len : Int) - p) ≤ 1000000000 → SRel a ν 10 → TI ν → XT tx len ν → ν 63 2 = (p : Int) → (gP tx len f p).1 = true → ∃ ν', xa_performAll_8 n x2 1 ν = some ((dG tx len f p x2 a).1, ν') ∧ SRel (dG tx len f p x2 a).2 ν' 10 ∧ XF ν ν' ∧ TI ν' := by
  induction f with
  | zero => intro p n x2 ν a t hp hf; omega
  | succ f ih =>
    intro p n x2 ν a t hp hf hn h0 hx hl w t0 ht S J T R G
    obtain ⟨n, rfl⟩ : ∃ m, n = m + 2 := ⟨n - 2, by omega⟩
    obtain ⟨g1, g2⟩ := gP_ok G
    obtain ⟨b1, b2, b3⟩ := oP_b (tx := tx) hp
    have b4 := b3 g1
    obtain ⟨ν1, y1, _, r1, f1, hh⟩ := xord_eq T R hp
    have w' := Wf_sOrd (tx := tx) (p := p) w t0 hl hp
    obtain ⟨ν2, e2, S2, f2⟩ := xact_eq (SRel_XP f1 S) (TI_XP f1 J) w t0 (by omega) hl hp (hh g1)
    have J2 : TI ν2 := TI_fr f2 (TI_XP f1 J)
    have F2 : XF ν ν2 := XF_tr (XP_XF f1) (fr_XF f2)
    have T2 := XT_XF T F2
    have r2 : ν2 63 2 = (((oP tx len p).2 : Nat) : Int) := by rw [f2 _ _ (by omega)]; exact r1
    obtain ⟨s1, s2⟩ := xAns_s (tx := tx) (len := len) (p := p) w
    rw [xa_performAll_8, if_neg (show ¬ (1 : Int) = 0 by decide), if_neg (by omega), y1 g1, sb, e2, sb, bnd_eq, dG]
    have hgo : ∃ ν', xa_performAll_45 (xa_performAll_8 (n + 1)) x2 ν2 = some ((if len ≤ (oP tx len p).2 then (x2 + 1, (sOrd tx len p a).2) else dG tx len f ((oP tx len p).2 + 1) (x2 + 1) (sOrd tx len p a).2).1, ν') ∧ SRel (if len ≤ (oP tx len p).2 then (x2 + 1, (sOrd tx len p a).2) else dG tx len f ((oP tx len p).2 + 1) (x2 + 1) (sOrd tx len p a).2).2 ν' 10 ∧ XF ν ν' ∧ TI ν' := by
      rw [xa_performAll_45, w32_eq (by omega) (by omega), bnd_eq]
      by_cases c : len ≤ (oP tx len p).2
      · rw [skip_n T2 r2 (fun z => by have := z.1; omega), sb, bnd_eq, xa_performAll_8, if_pos rfl, if_pos c, xa_performAll_58]
        exact ⟨ν2, rfl, S2, F2, J2⟩
      · obtain ⟨d, G2⟩ := g2 c
        have f3 : XP ν2 (mst ν2 63 2 (((oP tx len p).2 + 1 : Nat) : Int)) := XP_2 (XP_rf ν2) _
        obtain ⟨ν', e3, S3, F3, J3⟩ := ih ((oP tx len p).2 + 1) (n + 1) (x2 + 1) _ (sOrd tx len p a).2 (t + 100000) (by omega) (by omega) (by omega) (by omega) (by omega) hl w' (by omega) (by omega) (SRel_XP f3 S2) (TI_XP f3 J2) (XT_fr T2 f3) (mst_same _ _ _ _) G2
        rw [skip_y T2 r2 d, sb, bnd_eq, e3, if_neg c]
        exact ⟨ν', rfl, S3, XF_tr F2 (XF_tr (XP_XF f3) F3), J3⟩
    by_cases c : (sOrd tx len p a).1 < 0 ∧ (sOrd tx len p a).1 ≠ -5
    · have hn : xAns tx len p a = (sOrd tx len p a).1 := s2 (by omega)
      rw [hn, if_neg (show ¬ 0 ≤ (sOrd tx len p a).1 by omega), if_neg c.2, if_pos c, xa_performAll_42]
      exact ⟨ν2, rfl, S2, F2, J2⟩
    · rw [if_neg c]
      by_cases c2 : 0 ≤ xAns tx len p a
      · rw [if_pos c2]; exact hgo
      · have hn : xAns tx len p a = (sOrd tx len p a).1 := s2 (by omega)
        rw [if_neg c2, if_pos (by omega)]; exact hgo
end TXT16
