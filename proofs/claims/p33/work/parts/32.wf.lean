/-! rows stay well; the class's orders on a row: pouring, buying more -/
section WF
variable {a : Nat → Int} {t u : Int}
theorem Wf_mix (h : Wf a t) {k : Nat} (hk : k < 12) {v : Int} (hv : isM v) : Wf (up a (10 + 2 * k) v) t := by
  obtain ⟨h1, h2, h3, h4, h5, h6, h7, h8, h9⟩ := h
  have e8 : up a (10 + 2 * k) v 8 = a 8 := up_ne (by omega)
  have e34 : up a (10 + 2 * k) v 34 = a 34 := up_ne (by omega)
  have e43 : up a (10 + 2 * k) v 43 = a 43 := up_ne (by omega)
  unfold Wf
  rw [e8, e34, e43]
  refine ⟨fun j hj => ?_, h2, fun q hq => ?_, ?_, h5, fun q hq => ?_, h7, fun q hq => ?_, fun q hq => ?_⟩
  · rw [up_ne (by omega)]; exact h1 j hj
  · by_cases c : q = k
    · subst c; rw [up_same, up_ne (by omega)]; exact ⟨hv, (h3 q hq).2⟩
    · rw [up_ne (by omega), up_ne (by omega)]; exact h3 q hq
  · rw [up_ne (by omega)]; exact h4
  · rw [up_ne (by omega)]; exact h6 q hq
  · rw [up_ne (by omega)]; exact h8 q hq
  · rw [up_ne (by omega)]; exact h9 q hq
theorem Wf_num (h : Wf a t) {k : Nat} (hk : k < 12) {v : Int} (hv : 0 ≤ v) : Wf (up a (9 + 2 * k) v) t := by
  obtain ⟨h1, h2, h3, h4, h5, h6, h7, h8, h9⟩ := h
  have e8 : up a (9 + 2 * k) v 8 = a 8 := up_ne (by omega)
  have e34 : up a (9 + 2 * k) v 34 = a 34 := up_ne (by omega)
  have e43 : up a (9 + 2 * k) v 43 = a 43 := up_ne (by omega)
  unfold Wf
  rw [e8, e34, e43]
  refine ⟨fun j hj => ?_, h2, fun q hq => ?_, ?_, h5, fun q hq => ?_, h7, fun q hq => ?_, fun q hq => ?_⟩
  · rw [up_ne (by omega)]; exact h1 j hj
  · by_cases c : q = k
    · subst c; rw [up_same, up_ne (by omega)]; exact ⟨(h3 q hq).1, hv⟩
    · rw [up_ne (by omega), up_ne (by omega)]; exact h3 q hq
  · rw [up_ne (by omega)]; exact h4
  · rw [up_ne (by omega)]; exact h6 q hq
  · rw [up_ne (by omega)]; exact h8 q hq
  · rw [up_ne (by omega)]; exact h9 q hq
theorem Wf_acu (h : Wf a t) {k : Nat} (hk : 52 ≤ k ∧ k < 60) {v : Int} (htu : t ≤ u) (hv : -u ≤ v ∧ v ≤ u) : Wf (up a k v) u := by
  obtain ⟨h1, h2, h3, h4, h5, h6, h7, h8, h9⟩ := h
  have e8 : up a k v 8 = a 8 := up_ne (by omega)
  have e34 : up a k v 34 = a 34 := up_ne (by omega)
  have e43 : up a k v 43 = a 43 := up_ne (by omega)
  unfold Wf
  rw [e8, e34, e43]
  refine ⟨fun j hj => ?_, h2, fun q hq => ?_, ?_, h5, fun q hq => ?_, h7, fun q hq => ?_, fun q hq => ?_⟩
  · rw [up_ne (by omega)]; exact h1 j hj
  · rw [up_ne (by omega), up_ne (by omega)]; exact h3 q hq
  · rw [up_ne (by omega)]; exact h4
  · rw [up_ne (by omega)]; exact h6 q hq
  · rw [up_ne (by omega)]; exact h8 q hq
  · by_cases c : 52 + q = k
    · rw [c, up_same]; exact hv
    · rw [up_ne c]; have := h9 q hq; omega
theorem Wf_price (h : Wf a t) {k : Nat} (hk : k < 8) {v : Int} (hv : 0 ≤ v ∧ v ≤ 99) : Wf (up a k v) t := by
  obtain ⟨h1, h2, h3, h4, h5, h6, h7, h8, h9⟩ := h
  have e8 : up a k v 8 = a 8 := up_ne (by omega)
  have e34 : up a k v 34 = a 34 := up_ne (by omega)
  have e43 : up a k v 43 = a 43 := up_ne (by omega)
  unfold Wf
  rw [e8, e34, e43]
  refine ⟨fun j hj => ?_, h2, fun q hq => ?_, ?_, h5, fun q hq => ?_, h7, fun q hq => ?_, fun q hq => ?_⟩
  · by_cases c : j = k
    · rw [c, up_same]; exact hv
    · rw [up_ne c]; exact h1 j hj
  · rw [up_ne (by omega), up_ne (by omega)]; exact h3 q hq
  · rw [up_ne (by omega)]; exact h4
  · rw [up_ne (by omega)]; exact h6 q hq
  · rw [up_ne (by omega)]; exact h8 q hq
  · rw [up_ne (by omega)]; exact h9 q hq
end WF
theorem ab {a : Nat → Int} {t : Int} (h : Wf a t) (k : Nat) (h1 : 52 ≤ k) (h2 : k < 60) : -t ≤ a k ∧ a k ≤ t := by
  have := h.2.2.2.2.2.2.2.2 (k - 52) (by omega)
  rwa [show 52 + (k - 52) = k by omega] at this
theorem mixA_up {a : Nat → Int} {i : Nat} {v k : Int} (h : i ≠ 10 + 2 * k.toNat) : mixA (up a i v) k = mixA a k := up_ne (Ne.symm h)

theorem xpour_eq {μ : Mem} {a : Nat → Int} {t x y : Int} (hJ : JT μ) (h : SRel a μ 10) (w : Wf a t) (ht : t ≤ 1000000000) : ∃ μ', xa_pourInto x y μ = some ((sPours a x y).1, μ') ∧ SRel (sPours a x y).2 μ' 10 ∧ fr μ μ' := by
  have h8 := w.2.1
  have b1 := fnd_b (a := a) x h8.1
  have b2 := fnd_b (a := a) y h8.1
  rw [xa_pourInto, xplace_eq x h w, sb, xplace_eq y h w, sb]
  by_cases c1 : fnd a x = -5
  · rw [if_pos c1, if_pos (by omega), sPours, if_pos (Or.inl c1)]
    exact ⟨μ, rfl, h, fr_rf μ⟩
  · rw [if_neg c1, if_neg (by omega)]
    by_cases c2 : fnd a y = -5
    · rw [if_pos c2, if_neg (by omega), sPours, if_pos (Or.inr c2)]
      exact ⟨μ, rfl, h, fr_rf μ⟩
    · have c12 : ¬ (fnd a x = -5 ∨ fnd a y = -5) := fun z => z.elim c1 c2
      rw [if_neg c2, if_pos (by omega)]
      by_cases c3 : fnd a x = fnd a y
      · rw [if_pos c3, sPours, if_neg c12, if_pos c3]
        exact ⟨μ, rfl, h, fr_rf μ⟩
      · rw [if_neg c3, aget_eq (by omega) (by omega), sb, smix h w (by omega) (by omega)]
        by_cases c4 : mixA a (fnd a x) = 0
        · rw [if_pos c4, sPours, if_neg c12, if_neg c3, if_pos c4]
          exact ⟨μ, rfl, h, fr_rf μ⟩
        · rw [if_neg c4, aput_eq (by omega) (by omega), sb]
          have m1 := mixA_M w (k := fnd a x) (by omega) (by omega)
          have w' := Wf_mix w (k := (fnd a x).toNat) (by omega) (v := 0) (by decide)
          have h' := srel_mix h (wf3 w) (k := (fnd a x).toNat) (by omega) 0
          obtain ⟨μ', e, r, f, _⟩ := xmixInto_eq (k := fnd a y) (m := mixA a (fnd a x)) (JT_fr' hJ (fr_mst (fr_rf μ) (by omega))) h' w' (by omega) (by omega) (by rw [up_ne (by omega)]; omega) m1
          rw [mixA_up (by omega), mx_comm (mixA a (fnd a y)), up_ne (by omega), Int.add_comm (un (mixA a (fnd a y)))] at r
          rw [mixA_up (by omega), mx_comm (mixA a (fnd a y)), Int.add_comm (un (mixA a (fnd a y)))] at e
          rw [e, sb, sPours, if_neg c12, if_neg c3, if_neg c4]
          exact ⟨μ', rfl, r, fun p q hp => by rw [f p q hp, mst_pl (by omega)]⟩
theorem xbuy_eq {μ : Mem} {a : Nat → Int} {t x : Int} (hJ : JT μ) (h : SRel a μ 10) (w : Wf a t) (h0 : 0 ≤ t) (ht : t ≤ 1000000000) : ∃ μ', xa_buyAgain x μ = some ((sMore a x).1, μ') ∧ SRel (sMore a x).2 μ' 10 ∧ fr μ μ' := by
  have h8 := w.2.1
  have b1 := fnd_b (a := a) x h8.1
  rw [xa_buyAgain, xplace_eq x h w, sb]
  by_cases c1 : fnd a x = -5
  · rw [if_pos c1, if_neg (by omega), sMore, if_pos c1]
    exact ⟨μ, rfl, h, fr_rf μ⟩
  · rw [if_neg c1, if_pos (by omega), aget_eq (by omega) (by omega), sb, smix h w (by omega) (by omega)]
    by_cases c4 : mixA a (fnd a x) = 0
    · rw [if_pos c4, sMore, if_neg c1, if_pos c4]
      exact ⟨μ, rfl, h, fr_rf μ⟩
    · have m1 := mixA_M w (k := fnd a x) (by omega) (by omega)
      rw [if_neg c4, xunits_eq m1, sb, sMore, if_neg c1, if_neg c4]
      have hM : mixA a (fnd a x) = a (10 + 2 * (fnd a x).toNat) := rfl
      generalize hm : mixA a (fnd a x) = m at m1 c4 hM ⊢
      have u1 := un_b m
      have u3 := un_b (mx m m)
      have p1 := prc_b w.1 m
      have t52 := ab w 52 (by omega) (by omega)
      have t56 := ab w 56 (by omega) (by omega)
      rw [bnd_eq, show μ 16 0 = a 52 from sacc h (by omega), w32_eq (by omega) (by omega)]
      have h1 : SRel (up a 52 (a 52 + un m)) (mst μ 16 0 (a 52 + un m)) 10 := srel_acc h (wf3 w) (k := 0) (by omega) _
      have w1 : Wf (up a 52 (a 52 + un m)) (t + 2000) := Wf_acu w (by omega) (by omega) (by omega)
      have ep : prc (up a 52 (a 52 + un m)) m = prc a m := prc_cong (fun j hj => up_ne (by omega)) _
      rw [xprice_eq (sokP h1 w1) m1, sb, sprc h1, bnd_eq, ep, mst_ix (by decide), show μ 16 4 = a 56 from sacc h (by omega), w32_eq (by omega) (by omega)]
      have h2 : SRel (up (up a 52 (a 52 + un m)) 56 (a 56 + prc a m)) (mst (mst μ 16 0 (a 52 + un m)) 16 4 (a 56 + prc a m)) 10 := srel_acc h1 (wf3 w1) (k := 4) (by omega) _
      have w2 : Wf (up (up a 52 (a 52 + un m)) 56 (a 56 + prc a m)) (t + 4000) := Wf_acu w1 (by omega) (by omega) (by omega)
      have f2 : fr μ (mst (mst μ 16 0 (a 52 + un m)) 16 4 (a 56 + prc a m)) := fr_mst (fr_mst (fr_rf μ) (by omega)) (by omega)
      obtain ⟨μ', e, r, f, em⟩ := xmixInto_eq (k := fnd a x) (m := m) (JT_fr' hJ f2) h2 w2 (by omega) (by omega) (by rw [up_ne (by omega), up_ne (by omega)]; omega) m1
      rw [mixA_up (by omega), mixA_up (by omega), hm] at r e em
      rw [up_ne (by omega), up_ne (by omega)] at r
      rw [e, sb, aget_eq (by omega) (by omega), sb]
      refine ⟨μ', by dsimp only; rw [em], SRel_cong r (fun j hj => ?_) ?_, fun p q hp => by rw [f p q hp, f2 p q hp]⟩
      · dsimp only
        unfold up
        by_cases c1 : j = 53
        · rw [if_pos c1, if_pos c1]; omega
        · rw [if_neg c1, if_neg c1]
          by_cases c2 : j = 56
          · rw [if_pos c2, if_neg (by omega), if_pos c2]
          · rw [if_neg c2]
            by_cases c3 : j = 52
            · rw [if_pos c3, if_neg (by omega), if_neg c2, if_pos c3]
            · rw [if_neg c3, if_neg c2, if_neg c3]
      · have e : ∀ j, (j = 8 ∨ j = 34 ∨ j = 43) → up (up (up (up a 52 (a 52 + un m)) 56 (a 56 + prc a m)) (10 + 2 * (fnd a x).toNat) (mx m m)) 53 (a 53 + (un m + un m - un (mx m m))) j = a j := fun j hj => by rw [up_ne (by omega), up_ne (by omega), up_ne (by omega), up_ne (by omega)]
        rw [e 8 (by omega), e 34 (by omega), e 43 (by omega)]
        exact wf3 w
