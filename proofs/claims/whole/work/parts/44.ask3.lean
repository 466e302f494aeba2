/-! questions: alike, pouring in thought, needless rules -/
theorem sim_alike (x y z : Int) : SIM (mm_alike x y z) (xx_alike x y z) := by
  intro μ ν t h0 ht M X
  have hne : ¬ (1 : Int) = 0 := by decide
  rw [mm_alike, xx_alike, isMix_eq, sb, xisMix_eq, sb]
  by_cases a : isM x
  · rw [if_pos a, if_neg hne, if_neg hne, isMix_eq, sb, xisMix_eq, sb]
    by_cases b : isM y
    · rw [if_pos b, if_neg hne, if_neg hne]
      by_cases c : z = 0
      · rw [if_pos c, if_pos c]
        obtain ⟨μ1, ν1, e1, e2, M1, K1, L1, F1⟩ := taste_2 M X a
        obtain ⟨μ2, e3, M2, K2, _, _⟩ := taste_MI M1 b
        obtain ⟨ν2, e4, L2, F2⟩ := taste_X M.1 (q_SRel X.1 F1) ⟨_, _, L1⟩ b
        rw [KP_1 K1] at e3
        rw [e1, sb, e3, sb, e2, sb, e4, sb]
        have fin := q_end M2 (KP_tr K1 K2) X (QF_tr F1 F2) ⟨_, _, L2⟩
        by_cases d : tau (sp (μ 1)) x = tau (sp (μ 1)) y
        · rw [if_pos d, if_pos d, mm_alike_63, if_neg hne, mm_alike_75, xx_alike_39]
          exact ⟨_, _, _, rfl, rfl, fin⟩
        · rw [if_neg d, if_neg d, mm_alike_63, if_pos rfl, mm_alike_75, xx_alike_39]
          exact ⟨_, _, _, rfl, rfl, fin⟩
      · rw [if_neg c, if_neg c]
        have mm1 := mx_isM y (mx x x)
        obtain ⟨μ1, e1, M1, K1, _, _⟩ := taste_MI M mm1
        obtain ⟨ν1, e2, L1, F1⟩ := learn_Q M.1 X.1 X.2.1
        have e3 := someBland_eq L1 a b
        have fin := q_end M1 K1 X F1 ⟨_, _, L1⟩
        rw [mixed_eq a a, sb, mixed_eq b (mx_isM x x), sb, e1, sb, e2, sb, e3, sb]
        have hz := tau_0 (sp_sg (μ 1)) mm1
        by_cases d : tau (sp (μ 1)) (mx y (mx x x)) = 0
        · have hs : spn (rf (μ 1)) (-5) (rn (μ 1)) (mx y (mx x x)) := hz.mp d
          rw [if_pos d, mm_alike_63, if_neg hne, mm_alike_75, bi_pos hs, if_neg hne, xx_alike_68]
          exact ⟨_, _, _, rfl, rfl, fin⟩
        · have hs : ¬ spn (rf (μ 1)) (-5) (rn (μ 1)) (mx y (mx x x)) := fun w => d (hz.mpr w)
          rw [if_neg d, mm_alike_63, if_pos rfl, mm_alike_75, bi_neg hs, if_pos rfl, xx_alike_68]
          exact ⟨_, _, _, rfl, rfl, fin⟩
    · rw [if_neg b, if_pos rfl, if_pos rfl, mm_alike_14, xx_alike_14]
      exact ⟨_, _, _, rfl, rfl, MI_mono M (by omega), X⟩
  · rw [if_neg a, if_pos rfl, if_pos rfl, mm_alike_14, xx_alike_14]
    exact ⟨_, _, _, rfl, rfl, MI_mono M (by omega), X⟩
theorem sim_ifPoured (x y : Int) : SIM (mm_ifPoured x y) (xx_ifPoured x y) := by
  intro μ ν t h0 ht M X
  have h8 := M.1.2.1
  have b1 := fnd_b (a := μ 1) x h8.1
  have b2 := fnd_b (a := μ 1) y h8.1
  have hJ : JT ν := by obtain ⟨r, k, L⟩ := X.2.1; exact L.1
  have keep : MI μ (t + 1500000) ∧ XI ν μ := ⟨MI_mono M (by omega), X⟩
  rw [mm_ifPoured, xx_ifPoured, mfind_eq x h8, sb, mfind_eq y h8, sb, xplace_eq x X.1 M.1, sb, xplace_eq y X.1 M.1, sb]
  by_cases c1 : fnd (μ 1) x = -5
  · rw [if_pos c1, if_pos c1, if_pos (show (-1 : Int) < 0 by decide), mm_ifPoured_26, xx_ifPoured_28]
    exact ⟨_, _, _, rfl, rfl, keep⟩
  · rw [if_neg c1, if_neg c1, if_neg (show ¬ fnd (μ 1) x < 0 by omega)]
    by_cases c2 : fnd (μ 1) y = -5
    · rw [if_pos c2, if_pos c2, if_neg (show ¬ (0 : Int) ≤ -1 by decide), mm_ifPoured_26, xx_ifPoured_28]
      exact ⟨_, _, _, rfl, rfl, keep⟩
    · rw [if_neg c2, if_neg c2, if_pos (show 0 ≤ fnd (μ 1) y by omega)]
      by_cases c3 : fnd (μ 1) x = fnd (μ 1) y
      · rw [if_pos c3, if_pos c3, mm_ifPoured_57]
        exact ⟨_, _, _, rfl, rfl, keep⟩
      · have m1 := mixA_M M.1 (k := fnd (μ 1) x) (by omega) (by omega)
        have m2 := mixA_M M.1 (k := fnd (μ 1) y) (by omega) (by omega)
        rw [if_neg c3, if_neg c3, mmixIn_eq μ (by omega) (by omega), sb, mmixIn_eq μ (by omega) (by omega), sb, mixed_eq m1 m2, sb, aget_eq (by omega) (by omega), sb, smix X.1 M.1 (by omega) (by omega), aget_eq (by omega) (by omega), sb, smix X.1 M.1 (by omega) (by omega), join_eq hJ m1 m2, sb]
        obtain ⟨μ', ν', e1, e2, M', K, L, F⟩ := taste_2 M X (mx_isM (mixA (μ 1) (fnd (μ 1) x)) (mixA (μ 1) (fnd (μ 1) y)))
        rw [e1, sb, e2, sb, mm_ifPoured_57]
        exact ⟨_, _, _, rfl, rfl, q_end M' K X F ⟨_, _, L⟩⟩
theorem rul_fr {μ μ' : Mem} {r : Nat → Int} {k : Nat} (h : rulM μ r k) (e : ∀ q, μ' 1 q = μ 1 q) : rulM μ' r k := ⟨by rw [e]; exact h.1, h.2.1, fun j hj => ⟨by rw [e]; exact (h.2.2 j hj).1, (h.2.2 j hj).2⟩⟩
theorem mnl_lp {r : Nat → Int} {k : Nat} (j : Nat) : ∀ (i n : Nat) (μ : Mem), i + j = k → j < n → rulM μ r k → (∀ q : Nat, q < i → rk r q k ≠ rk r (-5) k) → ∃ v μ', mm_needless_10 n (rk r (-5) k) (-5) i μ = some (v, μ') ∧ IsN r k v ∧ μ' 0 8 = 0 ∧ (∀ p q, p ≠ 0 → p ≠ 6 → p ≠ 9 → μ' p q = μ p q) ∧ ∀ q, q ≠ 8 → μ' 0 q = μ 0 q := by
  induction j with
  | zero =>
    intro i n μ hi hn hr hb
    obtain ⟨n, rfl⟩ : ∃ m, n = m + 1 := ⟨n - 1, by omega⟩
    rw [mm_needless_10, hr.1, if_pos (by omega), mm_needless_49, bnd_eq]
    exact ⟨_, _, rfl, Or.inl ⟨rfl, fun q hq => hb q (by omega)⟩, mst_same _ _ _ _, fun p q h0 _ _ => mst_pl h0, fun q h => mst_ix h⟩
  | succ j ih =>
    intro i n μ hi hn hr hb
    obtain ⟨n, rfl⟩ : ∃ m, n = m + 1 := ⟨n - 1, by omega⟩
    have hk := hr.2.1
    have e3 : w32 ((i : Int) + 1) = ((i + 1 : Nat) : Int) := by rw [w32_eq (by omega) (by omega)]; omega
    obtain ⟨μ1, e1, f1, _⟩ := layBland_eq (b := (i : Int)) hr
    have hr1 := rul_fr hr (fun q => f1 1 q (by decide) (by decide))
    rw [mm_needless_10, hr.1, if_neg (by omega), if_pos rfl, e1, sb]
    by_cases c : rk r i k = rk r (-5) k
    · rw [if_pos c, mm_needless_42, bnd_eq, e3]
      obtain ⟨n, rfl⟩ : ∃ m, n = m + 1 := ⟨n - 1, by omega⟩
      refine ⟨(i : Int), mst μ1 0 8 0, ?_, Or.inr ⟨i, by omega, rfl, c, hb⟩, mst_same _ _ _ _, fun p q h0 h6 h9 => by rw [mst_pl h0, f1 p q h6 h9], fun q h => by rw [mst_ix h, f1 _ _ (by decide) (by decide)]⟩
      rw [mm_needless_10]
      by_cases d : μ1 1 34 ≤ ((i + 1 : Nat) : Int)
      · rw [if_pos d, mm_needless_49, bnd_eq]
      · rw [if_neg d, if_neg (by omega), mm_needless_49, bnd_eq]
    · rw [if_neg c, mm_needless_42, bnd_eq, e3]
      obtain ⟨v, μ', e, hv, h8, f, f0⟩ := ih (i + 1) n μ1 (by omega) (by omega) hr1 (fun q hq => by
        by_cases z : q = i
        · subst z; exact c
        · exact hb q (by omega))
      exact ⟨v, μ', e, hv, h8, fun p q h0 h6 h9 => by rw [f p q h0 h6 h9, f1 p q h6 h9], fun q h => by rw [f0 q h, f1 _ _ (by decide) (by decide)]⟩
theorem sim_needless : SIM mm_needless xx_needless := by
  intro μ ν t h0 ht M X
  obtain ⟨μ1, e1, M1, K1⟩ := strength_MI M
  have hr : rulM μ1 (rf (μ 1)) (rn (μ 1)) := by have := rul_M M1.1; rwa [KP_1 K1] at this
  obtain ⟨v, μ2, e2, hv, h8, f2, f20⟩ := mnl_lp (rn (μ 1)) 0 FU μ1 (by omega) (by have := FU_ge; have := hr.2.1; omega) hr (fun q hq => by omega)
  rw [show ((0 : Nat) : Int) = 0 from rfl] at e2
  obtain ⟨ν1, e3, L1, F1⟩ := learn_Q M.1 X.1 X.2.1
  obtain ⟨w, ν2, e4, hw, f4, L2⟩ := firstNeedless_eq L1
  have hvw := isN_un hv hw
  subst hvw
  have K2 : KP μ μ2 := KP_tr K1 ⟨fun p q p0 p6 p7 p8 p9 => f2 p q p0 p6 p9, fun q h8 _ => f20 q h8⟩
  rw [mm_needless, e1, sb, bnd_eq, xx_needless, e3, sb, e4, sb]
  refine ⟨_, _, _, e2, rfl, q_end (KP_MI K2 M ⟨Or.inl h8, by rw [K2.1 _ _ (by decide) (by decide) (by decide) (by decide) (by decide)]; exact M.2.2.2.2.2.2.2⟩) K2 X (QF_tr F1 (QF_of (fun p q hp => f4 p q (by omega)))) ⟨_, _, L2⟩⟩
