/-! one shelf, in both -/
theorem fjF_ne {a : Nat → Int} {T : Int → Int} {v : Int} (j : Nat) : ∀ k, (∃ q, k ≤ q ∧ q < k + j ∧ T (a (10 + 2 * q)) = v) → fjF a T v j k ≠ -5 := by
  induction j with
  | zero => intro k ⟨q, h1, h2, _⟩; omega
  | succ j ih =>
    intro k ⟨q, h1, h2, h3⟩
    rw [fjF]
    by_cases c : T (a (10 + 2 * k)) = v
    · rw [if_pos c]; omega
    · rw [if_neg c]
      refine ih (k + 1) ⟨q, ?_, by omega, h3⟩
      by_cases z : q = k
      · subst z; exact absurd h3 c
      · omega
theorem chF_ne {a : Nat → Int} {T : Int → Int} {v : Int} (j : Nat) : ∀ (k : Nat) (c : Int), (c ≠ -5 ∨ ∃ q, k ≤ q ∧ q < k + j ∧ T (a (10 + 2 * q)) = v) → chF a T v j k c ≠ -5 := by
  induction j with
  | zero =>
    intro k c h
    rw [chF]
    rcases h with h | ⟨q, h1, h2, _⟩
    · exact h
    · omega
  | succ j ih =>
    intro k c h
    rw [chF]
    refine ih (k + 1) _ ?_
    by_cases z : T (a (10 + 2 * k)) = v
    · rw [if_pos z]
      left
      by_cases c5 : c = -5
      · rw [if_pos c5]; omega
      · rw [if_neg c5]
        split
        · exact c5
        · omega
    · rw [if_neg z]
      rcases h with h | ⟨q, h1, h2, h3⟩
      · exact Or.inl h
      · right
        refine ⟨q, ?_, by omega, h3⟩
        by_cases w : q = k
        · subst w; exact absurd h3 z
        · omega
theorem xts_lp {ν : Mem} {a : Nat → Int} {t x1 : Int} (w : Wf a t) (S : SRel a ν 10) (L : LK ν (rf a) (rn a)) (f : Nat) : ∀ (n : Nat) (x4 p : Int), f < n → 0 ≤ x4 → x4 + f ≤ 1000 → gtF a (tau (sp a)) p (a 8).toNat ≤ f → -1 ≤ p → xx_tasteOfShelf_22 n x1 (nx a (tau (sp a)) p) x4 ν = some (itN a (tau (sp a)) (x1 - x4).toNat (nx a (tau (sp a)) p)) := by
  induction f with
  | zero =>
    intro n x4 p hn hx hx2 hg hp
    obtain ⟨n, rfl⟩ : ∃ m, n = m + 1 := ⟨n - 1, by omega⟩
    have h : nx a (tau (sp a)) p = -5 := by
      rcases nx_b a (tau (sp a)) p with h | ⟨h, hq⟩
      · exact h
      · have := gtF_lt h _ hq; omega
    rw [h, itN_5, xx_tasteOfShelf_22, xx_tasteOfShelf_43]
    split
    · rfl
    · rw [if_pos (by decide)]
  | succ f ih =>
    intro n x4 p hn hx hx2 hg hp
    obtain ⟨n, rfl⟩ : ∃ m, n = m + 1 := ⟨n - 1, by omega⟩
    by_cases c : nx a (tau (sp a)) p = -5
    · rw [c, itN_5, xx_tasteOfShelf_22, xx_tasteOfShelf_43]
      split
      · rfl
      · rw [if_pos (by decide)]
    · by_cases d : x1 ≤ x4
      · rw [xx_tasteOfShelf_22, if_pos d, xx_tasteOfShelf_43, show (x1 - x4).toNat = 0 by omega, itN]
      · obtain ⟨h, hq⟩ := (nx_b a (tau (sp a)) p).resolve_left c
        have hl := gtF_lt h _ hq
        rw [xx_tasteOfShelf_22, if_neg d, if_neg (by omega), xnext_eq w S L, sb, w32_eq (by omega) (by omega), bnd_eq, ih n (x4 + 1) (nx a (tau (sp a)) p) (by omega) (by omega) (by omega) (by omega) (by omega), show (x1 - x4).toNat = (x1 - (x4 + 1)).toNat + 1 by omega, itN, if_neg c]
theorem xtos_eq {ν : Mem} {a : Nat → Int} {t x1 : Int} (w : Wf a t) (S : SRel a ν 10) (L : LK ν (rf a) (rn a)) (h1 : 0 ≤ x1) : xx_tasteOfShelf x1 ν = some (itN a (tau (sp a)) x1.toNat (nx a (tau (sp a)) (-1))) := by
  have w8 := w.2.1
  have hg := gtF_le a (tau (sp a)) (-1) (a 8).toNat
  rw [xx_tasteOfShelf, S.1]
  by_cases c : x1 < a 8
  · have := xts_lp (x1 := x1) w S L (a 8).toNat FU 0 (-1) (by have := FU_ge; omega) (by omega) (by omega) hg (by omega)
    rw [Int.sub_zero] at this
    rw [if_pos c, xnext_eq w S L, sb, this]
  · rw [if_neg c, itN_end x1.toNat (-1) (by omega)]
theorem sim_shelf (x v : Int) : SIM (mm_shelf x v) (xx_shelf x v) := by
  intro μ ν t h0 ht M X
  have keep : MI μ (t + 1500000) ∧ XI ν μ := ⟨MI_mono M (by omega), X⟩
  have w8 := M.1.2.1
  rw [mm_shelf, xx_shelf]
  by_cases c1 : x < 0
  · rw [if_pos c1, if_pos c1, mm_shelf_13, xx_shelf_13]
    exact ⟨_, _, _, rfl, rfl, keep⟩
  · rw [if_neg c1, if_neg c1, in_eq, sb]
    by_cases c2 : 0 ≤ v ∧ v ≤ 3
    · have hne : ¬ (1 : Int) = 0 := by decide
      rw [if_pos c2, if_neg hne, if_neg (show ¬ v < 0 by omega), if_pos c2.2]
      obtain ⟨ν1, e3, L1, F1⟩ := learn_Q M.1 X.1 X.2.1
      have S1 := q_SRel X.1 F1
      have hg := gtF_le (μ 1) (tau (sp (μ 1))) (-1) (μ 1 8).toNat
      obtain ⟨μ1, e1, M1, K1⟩ := mnext_eq (v := -1) M
      obtain ⟨μ2, e2, M2, K2⟩ := msh25_lp (x1 := x) (x2 := v) (a := μ 1) (μ 1 8).toNat FU 0 (-1) μ1 M1 (KP_1 K1) (by have := FU_ge; omega) (by omega) (by omega) hg
      have K12 := KP_tr K1 K2
      rw [Int.sub_zero] at e2
      rw [e1, sb, bnd_eq]
      have e2' : mm_shelf_25 FU x v (nx (μ 1) (tau (sp (μ 1))) (-1)) 0 μ1 = mm_shelf_49 v (itN (μ 1) (tau (sp (μ 1))) x.toNat (nx (μ 1) (tau (sp (μ 1))) (-1))) μ2 := e2
      rw [e3, sb, xtos_eq M.1 S1 L1 (by omega), sb]
      show ∃ r μ' ν', mm_shelf_25 FU x v (nx (μ 1) (tau (sp (μ 1))) (-1)) 0 μ1 = some (r, μ') ∧ _
      rw [e2', mm_shelf_49]
      have hb := itN_b (μ 1) (tau (sp (μ 1))) x.toNat (-1)
      generalize itN (μ 1) (tau (sp (μ 1))) x.toNat (nx (μ 1) (tau (sp (μ 1))) (-1)) = z at hb
      by_cases c3 : z = -5
      · rw [if_pos c3, if_neg (show ¬ 0 ≤ z by omega)]
        exact ⟨_, _, _, rfl, rfl, q_end M2 K12 X F1 ⟨_, _, L1⟩⟩
      · have hb2 := hb.resolve_left c3
        clear hb
        obtain ⟨q, hq, hz⟩ := hb2
        have mq := (M.1.2.2.1 q (by omega)).1
        have tq := tau_is (sp_sg (μ 1)) mq
        have tt := tau_tau (sp_sg (μ 1)) mq
        rw [hz] at tq tt
        have zM : isM z := tq.1
        obtain ⟨μ3, e4, M3, K3⟩ := msh69_lp (x2 := v) (v := z) (a := μ 1) (μ 1 8).toNat 0 FU (-5) (-5) μ2 M2 (KP_1 K12) (by omega) (by have := FU_ge; omega) (Or.inl rfl)
        have K13 := KP_tr K12 K3
        have r3 := KP_1 K13
        have fin := q_end M3 K13 X F1 ⟨_, _, L1⟩
        rw [show ((0 : Nat) : Int) = 0 from rfl, if_pos rfl] at e4
        have hf := fjF_b (μ 1) (tau (sp (μ 1))) z (μ 1 8).toNat 0
        have hfn := fjF_ne (a := μ 1) (T := tau (sp (μ 1))) (v := z) (μ 1 8).toNat 0 ⟨q, by omega, by omega, hz⟩
        have hc := chF_b (μ 1) (tau (sp (μ 1))) z (μ 1 8).toNat 0 (-5) (Or.inl rfl)
        have hcn := chF_ne (a := μ 1) (T := tau (sp (μ 1))) (v := z) (μ 1 8).toNat 0 (-5) (Or.inr ⟨q, by omega, by omega, hz⟩)
        rw [if_neg c3, if_pos zM.1, e4, mm_shelf_156]
        rcases (show v = 0 ∨ v = 1 ∨ v = 2 ∨ v = 3 by omega) with rfl | rfl | rfl | rfl
        · rw [if_pos rfl, if_pos rfl, mm_shelf_197]
          exact ⟨_, _, _, rfl, rfl, fin⟩
        · obtain ⟨μ4, e5, M4, K4⟩ := mjl_lp (a := μ 1) zM (μ 1 8).toNat 0 FU 0 μ3 M3 r3 (by omega) (by have := FU_ge; omega) (by omega) (by omega)
          have e6 := xjl_lp (v := z) M.1 S1 L1 (μ 1 8).toNat 0 FU 0 (by omega) (by have := FU_ge; omega) (by omega) (by omega)
          rw [show ((0 : Nat) : Int) = 0 from rfl] at e5 e6
          rw [tt] at e5
          rw [if_neg (show ¬ (1 : Int) = 0 by decide), if_pos rfl, if_neg (show ¬ (1 : Int) = 0 by decide), if_pos rfl, mm_jarsLike, e5, sb, mm_shelf_197, xx_jarsLike, e6, sb]
          exact ⟨_, _, _, rfl, rfl, q_end M4 (KP_tr K13 K4) X F1 ⟨_, _, L1⟩⟩
        · have e6 := xfj_lp (v := z) M.1 S1 L1 (μ 1 8).toNat 0 FU (by omega) (by have := FU_ge; omega)
          rw [show ((0 : Nat) : Int) = 0 from rfl, show spn (rf (μ 1)) (-5) (rn (μ 1)) = sp (μ 1) from rfl] at e6
          generalize fjF (μ 1) (tau (sp (μ 1))) z (μ 1 8).toNat 0 = k at hf hfn e6
          rw [if_neg (show ¬ (2 : Int) = 0 by decide), if_neg (show ¬ (2 : Int) = 1 by decide), if_pos rfl, if_neg (show ¬ (2 : Int) = 0 by decide), if_neg (show ¬ (2 : Int) = 1 by decide), if_pos rfl, mnumberOf_eq μ3 (by omega) (by omega), sb, mm_shelf_197, xx_lowestJarLike, xt_firstJarLike, e6, sb, if_pos (show 0 ≤ k by omega), aget_eq (by omega) (by omega), sb, xx_lowestJarLike_31, sb, (S1.2.2.2.2.1 k.toNat (by omega)).1, r3]
          exact ⟨_, _, _, rfl, rfl, fin⟩
        · obtain ⟨d, e6, hd⟩ := xcj_lp (v := z) M.1 S1 L1 (μ 1 8).toNat 0 FU (-5) (by omega) (by have := FU_ge; omega) (Or.inl rfl)
          rw [show spn (rf (μ 1)) (-5) (rn (μ 1)) = sp (μ 1) from rfl] at hd
          rw [← hd] at hc hcn ⊢
          rw [if_pos rfl, if_pos rfl, if_neg hcn, show ((0 : Nat) : Int) = 0 from rfl] at e6
          rw [if_neg (show ¬ (3 : Int) = 0 by decide), if_neg (show ¬ (3 : Int) = 1 by decide), if_neg (show ¬ (3 : Int) = 2 by decide), if_neg (show ¬ (3 : Int) = 0 by decide), if_neg (show ¬ (3 : Int) = 1 by decide), if_neg (show ¬ (3 : Int) = 2 by decide), mnumberOf_eq μ3 (by omega) (by omega), sb, mm_shelf_197, xx_cheapestJarLike, e6, sb, r3]
          exact ⟨_, _, _, rfl, rfl, fin⟩
    · rw [if_neg c2, if_pos rfl, mm_shelf_13]
      by_cases c3 : v < 0
      · rw [if_pos c3, xx_shelf_13]
        exact ⟨_, _, _, rfl, rfl, keep⟩
      · rw [if_neg c3, if_neg (show ¬ v ≤ 3 by omega), xx_shelf_13]
        exact ⟨_, _, _, rfl, rfl, keep⟩
