/-! the reference's layBland and lay -/
theorem nzz_b {x : Int} (h : x = 0 ∨ x = 1) : nzz x = x := by
  rw [nzz_def]
  rcases h with rfl | rfl <;> rfl
theorem nzz_bi (p : Prop) : nzz (bi p) = bi p := nzz_b (bi_b p)
theorem toN {m v : Int} (hm : 0 ≤ m) (hv : 0 ≤ v) : m.toNat = v.toNat ↔ m = v := by omega
/-- what one more rule adds, as the loop finds it -/
def hit (old : Int → Prop) (r : Int) (i m : Int) : Prop := old m ∨ ∃ x, isM x ∧ x < i ∧ old x ∧ (m = mx x r ∨ m = mx (mx x r) r)
theorem hit_all {old : Int → Prop} {r m : Int} (hm : isM m) : hit old r 6561 m ↔ ext old r m := by
  unfold hit ext
  refine ⟨fun h => ?_, fun h => ?_⟩
  · rcases h with h | ⟨x, h1, _, h2, h3 | h3⟩
    · exact Or.inl h
    · refine Or.inr ⟨hm, Or.inr ?_⟩
      rw [h3, mx_assoc, mx_three, mx_zero h1]; exact h2
    · refine Or.inr ⟨hm, Or.inl ?_⟩
      rw [h3, mx_assoc, mx_assoc, mx_three, mx_zero h1]; exact h2
  · rcases h with h | ⟨_, h | h⟩
    · exact Or.inl h
    · refine Or.inr ⟨mx m r, mx_isM _ _, (mx_isM _ _).2, h, Or.inr ?_⟩
      rw [mx_assoc, mx_assoc, mx_three, mx_zero hm]
    · refine Or.inr ⟨mx m (mx r r), mx_isM _ _, (mx_isM _ _).2, h, Or.inl ?_⟩
      rw [mx_assoc, mx_assoc, mx_three, mx_zero hm]
theorem lb108 {K : Int → Int → Int → Mem → Option (Int × Mem)} {x1 x2 x3 r : Int} (hr : isM r) {old : Int → Prop} (j : Nat) : ∀ (n : Nat) (i : Int) (μ : Mem), i + j = 6561 → 0 ≤ i → j < n →
    (∀ m, isM m → μ 9 m.toNat = bi (old m)) → (∀ m, isM m → μ 6 m.toNat = bi (hit old r i m)) →
    ∃ μ', mm_layBland_108 K n x1 x2 x3 r i μ = mm_layBland_162 K x1 x2 x3 μ' ∧ (∀ p q, p ≠ 6 → μ' p q = μ p q) ∧ ∀ m, isM m → μ' 6 m.toNat = bi (ext old r m) := by
  induction j with
  | zero =>
    intro n i μ hi h0 hn h9 h6
    obtain ⟨n, rfl⟩ : ∃ m, n = m + 1 := ⟨n - 1, by omega⟩
    have : i = 6561 := by omega
    subst this
    refine ⟨μ, by rw [mm_layBland_108, if_pos (by omega)], fun p q _ => rfl, fun m hm => ?_⟩
    rw [h6 m hm]
    exact bi_cong (hit_all hm)
  | succ j ih =>
    intro n i μ hi h0 hn h9 h6
    obtain ⟨n, rfl⟩ : ∃ m, n = m + 1 := ⟨n - 1, by omega⟩
    have hiM : isM i := ⟨h0, by omega⟩
    have e1 : w32 (i + 1) = i + 1 := w32_eq (by omega) (by omega)
    rw [mm_layBland_108, if_neg (by omega), aget_eq h0 (by omega), sb, h9 i hiM]
    by_cases ho : old i
    · have ha := mx_isM i r
      have hb := mx_isM (mx i r) r
      rw [bi_pos ho, if_neg (by decide), mixed_eq hiM hr, sb, nzz_b (Or.inr rfl), aput_eq ha.1 ha.2, sb, mixed_eq ha hr, sb, aput_eq hb.1 hb.2, sb, mm_layBland_156, bnd_eq, e1]
      have hh : ∀ m, isM m → (mst (mst μ 6 (mx i r).toNat 1) 6 (mx (mx i r) r).toNat 1) 6 m.toNat = bi (hit old r (i + 1) m) := by
        intro m hm
        by_cases c1 : m = mx (mx i r) r
        · subst c1
          rw [mst_same]
          exact (bi_pos (Or.inr ⟨i, hiM, by omega, ho, Or.inr rfl⟩)).symm
        · rw [mst_ix (by rw [Ne, toN hm.1 hb.1]; exact c1)]
          by_cases c2 : m = mx i r
          · subst c2
            rw [mst_same]
            exact (bi_pos (Or.inr ⟨i, hiM, by omega, ho, Or.inl rfl⟩)).symm
          · rw [mst_ix (by rw [Ne, toN hm.1 ha.1]; exact c2), h6 m hm]
            refine bi_cong ⟨fun h => ?_, fun h => ?_⟩
            · rcases h with h | ⟨x, q1, q2, q3⟩
              · exact Or.inl h
              · exact Or.inr ⟨x, q1, by omega, q3⟩
            · rcases h with h | ⟨x, q1, q2, q3, q4⟩
              · exact Or.inl h
              · by_cases hx : x = i
                · subst hx
                  rcases q4 with q4 | q4
                  · exact absurd q4 c2
                  · exact absurd q4 c1
                · exact Or.inr ⟨x, q1, by omega, q3, q4⟩
      obtain ⟨μ', e, f, g⟩ := ih n (i + 1) _ (by omega) (by omega) (by omega) (fun m hm => by rw [mst_pl (by decide), mst_pl (by decide)]; exact h9 m hm) hh
      exact ⟨μ', e, fun p q hp => by rw [f p q hp, mst_pl hp, mst_pl hp], g⟩
    · rw [bi_neg ho, if_pos rfl, mm_layBland_156, bnd_eq, e1]
      refine ih n (i + 1) μ (by omega) (by omega) (by omega) h9 (fun m hm => ?_)
      rw [h6 m hm]
      refine bi_cong ⟨fun h => ?_, fun h => ?_⟩
      · rcases h with h | ⟨x, q1, q2, q3⟩
        · exact Or.inl h
        · exact Or.inr ⟨x, q1, by omega, q3⟩
      · rcases h with h | ⟨x, q1, q2, q3, q4⟩
        · exact Or.inl h
        · by_cases hx : x = i
          · subst hx
            exact absurd q3 ho
          · exact Or.inr ⟨x, q1, by omega, q3, q4⟩
theorem lb77 {K : Int → Int → Int → Mem → Option (Int × Mem)} {x1 x2 x3 r : Int} {old : Int → Prop} (j : Nat) : ∀ (n : Nat) (i : Int) (μ : Mem), i + j = 6561 → 0 ≤ i → j < n →
    (∀ m, isM m → μ 6 m.toNat = bi (old m)) → (∀ m, isM m → m < i → μ 9 m.toNat = bi (old m)) →
    ∃ μ', mm_layBland_77 K n x1 x2 x3 r i μ = mm_layBland_105 K x1 x2 x3 r μ' ∧ (∀ p q, p ≠ 9 → μ' p q = μ p q) ∧ ∀ m, isM m → μ' 9 m.toNat = bi (old m) := by
  induction j with
  | zero =>
    intro n i μ hi h0 hn h6 h9
    obtain ⟨n, rfl⟩ : ∃ m, n = m + 1 := ⟨n - 1, by omega⟩
    exact ⟨μ, by rw [mm_layBland_77, if_pos (by omega)], fun p q _ => rfl, fun m hm => h9 m hm (by have := hm.2; omega)⟩
  | succ j ih =>
    intro n i μ hi h0 hn h6 h9
    obtain ⟨n, rfl⟩ : ∃ m, n = m + 1 := ⟨n - 1, by omega⟩
    have hiM : isM i := ⟨h0, by omega⟩
    have e1 : w32 (i + 1) = i + 1 := w32_eq (by omega) (by omega)
    rw [mm_layBland_77, if_neg (by omega), aget_eq h0 (by omega), sb, h6 i hiM, nzz_bi, aput_eq h0 (by omega), sb, bnd_eq, e1]
    have hh : ∀ m, isM m → m < i + 1 → (mst μ 9 i.toNat (bi (old i))) 9 m.toNat = bi (old m) := by
      intro m hm hl
      by_cases c : m = i
      · subst c
        rw [mst_same]
      · rw [mst_ix (by rw [Ne, toN hm.1 h0]; exact c)]
        exact h9 m hm (by omega)
    obtain ⟨μ', e, f, g⟩ := ih n (i + 1) _ (by omega) (by omega) (by omega) (fun m hm => by rw [mst_pl (by decide)]; exact h6 m hm) hh
    exact ⟨μ', e, fun p q hp => by rw [f p q hp, mst_pl hp], g⟩
/-- the rules as the reference holds them are r 0, r 1 .. below k -/
def rulM (μ : Mem) (r : Nat → Int) (k : Nat) : Prop := μ 1 34 = (k : Int) ∧ k ≤ 8 ∧ ∀ j, j < k → μ 1 (35 + j) = r j ∧ isM (r j)
theorem lb34 {r : Nat → Int} {k : Nat} {b : Int} (j : Nat) : ∀ (i n : Nat) (μ : Mem), i + j = k → j < n → rulM μ r k → (∀ m, isM m → μ 6 m.toNat = bi (spn r b i m)) →
    ∃ μ', mm_layBland_34 n b (rk r b i) i μ = some (rk r b k, μ') ∧ (∀ p q, p ≠ 6 → p ≠ 9 → μ' p q = μ p q) ∧ ∀ m, isM m → μ' 6 m.toNat = bi (spn r b k m) := by
  induction j with
  | zero =>
    intro i n μ hi hn hr h6
    obtain ⟨n, rfl⟩ : ∃ m, n = m + 1 := ⟨n - 1, by omega⟩
    have : i = k := by omega
    subst this
    exact ⟨μ, by rw [mm_layBland_34, hr.1, if_pos (by omega), mm_layBland_168], fun p q _ _ => rfl, h6⟩
  | succ j ih =>
    intro i n μ hi hn hr h6
    obtain ⟨n, rfl⟩ : ∃ m, n = m + 1 := ⟨n - 1, by omega⟩
    obtain ⟨hr1, hr2, hr3⟩ := hr
    have hri := hr3 i (by omega)
    have e0 : w32 (35 + (i : Int)) = 35 + i := w32_eq (by omega) (by omega)
    have e1 : w32 ((i : Int) + 1) = ((i + 1 : Nat) : Int) := by rw [w32_eq (by omega) (by omega)]; omega
    have e2 : (35 + (i : Int)).toNat = 35 + i := by omega
    rw [mm_layBland_34, hr1, if_neg (by omega), e0, aget_eq (by omega) (by omega), sb, e2, hri.1]
    by_cases hb : (i : Int) = b
    · rw [if_pos hb, mm_layBland_162, bnd_eq, e1]
      have e3 : rk r b i = rk r b (i + 1) := by simp only [rk]; rw [bi_neg (fun z => z.1 hb)]; omega
      rw [e3]
      exact ih (i + 1) n μ (by omega) (by omega) ⟨hr1, hr2, hr3⟩ (fun m hm => by rw [h6 m hm]; exact bi_cong (spn_eq r b i hb m).symm)
    · rw [if_neg hb, aget_eq hri.2.1 hri.2.2, sb, h6 _ hri.2]
      by_cases hs : spn r b i (r i)
      · rw [bi_pos hs, if_neg (by decide), mm_layBland_162, bnd_eq, e1]
        have e3 : rk r b i = rk r b (i + 1) := by simp only [rk]; rw [bi_neg (fun z => z.2 hs)]; omega
        rw [e3]
        exact ih (i + 1) n μ (by omega) (by omega) ⟨hr1, hr2, hr3⟩ (fun m hm => by rw [h6 m hm]; exact bi_cong ((spn_ne r b i hb m).trans (ext_in (spn_sg r b i) hs m)).symm)
      · have hk := rk_b r b i
        have e3 : w32 (rk r b i + 1) = rk r b (i + 1) := by rw [w32_eq (by omega) (by omega)]; simp only [rk]; rw [bi_pos ⟨hb, hs⟩]
        rw [bi_neg hs, if_pos rfl, bnd_eq, e3]
        obtain ⟨μ1, q1, q2, q3⟩ := lb77 (K := mm_layBland_34 n) (x1 := b) (x2 := rk r b (i + 1)) (x3 := i) (r := r i) (old := spn r b i) 6561 FU 0 μ (by omega) (by omega) (by have := FU_ge; omega) h6 (fun m hm hl => by have := hm.1; omega)
        rw [q1, mm_layBland_105]
        obtain ⟨μ2, p1, p2, p3⟩ := lb108 (K := mm_layBland_34 n) (x1 := b) (x2 := rk r b (i + 1)) (x3 := i) hri.2 (old := spn r b i) 6561 FU 0 μ1 (by omega) (by omega) (by have := FU_ge; omega) q3 (fun m hm => by
          rw [q2 6 _ (by decide), h6 m hm]
          refine bi_cong ⟨Or.inl, fun h => ?_⟩
          rcases h with h | ⟨x, z1, z2, -⟩
          · exact h
          · have := z1.1; omega)
        rw [p1, mm_layBland_162, bnd_eq, e1]
        have hfr : ∀ p q, p ≠ 6 → p ≠ 9 → μ2 p q = μ p q := fun p q h1 h2 => by rw [p2 p q h1, q2 p q h2]
        obtain ⟨μ', o1, o2, o3⟩ := ih (i + 1) n μ2 (by omega) (by omega) ⟨by rw [hfr 1 34 (by decide) (by decide)]; exact hr1, hr2, fun j hj => by rw [hfr 1 _ (by decide) (by decide)]; exact hr3 j hj⟩ (fun m hm => by rw [p3 m hm]; exact bi_cong (spn_ne r b i hb m).symm)
        exact ⟨μ', o1, fun p q h1 h2 => by rw [o2 p q h1 h2, hfr p q h1 h2], o3⟩
theorem lb2 {b : Int} (j : Nat) : ∀ (n : Nat) (i : Int) (μ : Mem), i + j = 6561 → 0 ≤ i → j < n → (∀ m, isM m → m < i → μ 6 m.toNat = bi (m = 0)) →
    ∃ μ', mm_layBland_2 n b i μ = mm_layBland_30 b μ' ∧ (∀ p q, p ≠ 6 → μ' p q = μ p q) ∧ ∀ m, isM m → μ' 6 m.toNat = bi (m = 0) := by
  induction j with
  | zero =>
    intro n i μ hi h0 hn h6
    obtain ⟨n, rfl⟩ : ∃ m, n = m + 1 := ⟨n - 1, by omega⟩
    exact ⟨μ, by rw [mm_layBland_2, if_pos (by omega)], fun p q _ => rfl, fun m hm => h6 m hm (by have := hm.2; omega)⟩
  | succ j ih =>
    intro n i μ hi h0 hn h6
    obtain ⟨n, rfl⟩ : ∃ m, n = m + 1 := ⟨n - 1, by omega⟩
    have hiM : isM i := ⟨h0, by omega⟩
    have e1 : w32 (i + 1) = i + 1 := w32_eq (by omega) (by omega)
    have key : mm_layBland_2 (n + 1) b i μ = mm_layBland_2 n b (i + 1) (mst μ 6 i.toNat (bi (i = 0))) := by
      rw [mm_layBland_2, if_neg (by omega)]
      by_cases hz : i = 0
      · rw [if_pos hz, mm_layBland_23, nzz_b (Or.inr rfl), aput_eq h0 (by omega), sb, bnd_eq, e1, bi_pos hz]
      · rw [if_neg hz, mm_layBland_23, nzz_b (Or.inl rfl), aput_eq h0 (by omega), sb, bnd_eq, e1, bi_neg hz]
    rw [key]
    have hh : ∀ m, isM m → m < i + 1 → (mst μ 6 i.toNat (bi (i = 0))) 6 m.toNat = bi (m = 0) := by
      intro m hm hl
      by_cases c : m = i
      · subst c
        rw [mst_same]
      · rw [mst_ix (by rw [Ne, toN hm.1 h0]; exact c)]
        exact h6 m hm (by omega)
    obtain ⟨μ', e, f, g⟩ := ih n (i + 1) _ (by omega) (by omega) (by omega) hh
    exact ⟨μ', e, fun p q hp => by rw [f p q hp, mst_pl hp], g⟩
/-- layBland: which mixes are bland by the rules but one, and their strength -/
theorem layBland_eq {r : Nat → Int} {k : Nat} {b : Int} {μ : Mem} (hr : rulM μ r k) : ∃ μ', mm_layBland b μ = some (rk r b k, μ') ∧ (∀ p q, p ≠ 6 → p ≠ 9 → μ' p q = μ p q) ∧ ∀ m, isM m → μ' 6 m.toNat = bi (spn r b k m) := by
  obtain ⟨μ1, q1, q2, q3⟩ := lb2 (b := b) 6561 FU 0 μ (by omega) (by omega) (by have := FU_ge; omega) (fun m hm hl => by have := hm.1; omega)
  obtain ⟨μ', o1, o2, o3⟩ := lb34 (r := r) (k := k) (b := b) k 0 FU μ1 (by omega) (by have := FU_ge; have := hr.2.1; omega) ⟨by rw [q2 1 34 (by decide)]; exact hr.1, hr.2.1, fun j hj => by rw [q2 1 _ (by decide)]; exact hr.2.2 j hj⟩ q3
  refine ⟨μ', ?_, fun p q h1 h2 => by rw [o2 p q h1 h2, q2 p q h1], o3⟩
  rw [mm_layBland, q1, mm_layBland_30]
  exact o1
