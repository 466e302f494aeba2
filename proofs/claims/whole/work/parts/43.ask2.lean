/-! questions: jars of a taste, mixes, lists, needless rules -/
def cnF (a : Nat → Int) (T : Int → Int) (v : Int) : Nat → Nat → Int
  | 0, _ => 0
  | j + 1, k => (if T (a (10 + 2 * k)) = v then 1 else 0) + cnF a T v j (k + 1)
theorem mjl_lp {a : Nat → Int} {t m : Int} (hm : isM m) (j : Nat) : ∀ (k n : Nat) (x : Int) (μ : Mem), MI μ t → μ 1 = a → (k : Int) + j = a 8 → j < n → 0 ≤ x → x ≤ k → ∃ μ', mm_jarsLike_4 n m x k μ = some (x + cnF a (tau (sp a)) (tau (sp a) m) j k, μ') ∧ MI μ' t ∧ KP μ μ' := by
  induction j with
  | zero =>
    intro k n x μ M h1 hk hn hx hx2
    obtain ⟨n, rfl⟩ : ∃ m, n = m + 1 := ⟨n - 1, by omega⟩
    rw [mm_jarsLike_4, h1, if_pos (by omega), mm_jarsLike_46, cnF, Int.add_zero]
    exact ⟨μ, rfl, M, KP_rf μ⟩
  | succ j ih =>
    intro k n x μ M h1 hk hn hx hx2
    obtain ⟨n, rfl⟩ : ∃ m, n = m + 1 := ⟨n - 1, by omega⟩
    have w8 := M.1.2.1
    rw [h1] at w8
    have e3 : w32 ((k : Int) + 1) = ((k + 1 : Nat) : Int) := by rw [w32_eq (by omega) (by omega)]; omega
    have mk : isM (a (10 + 2 * k)) := by have := (M.1.2.2.1 k (by rw [h1]; omega)).1; rwa [h1] at this
    obtain ⟨μ1, e1, M1, K1, _, _⟩ := taste_MI M mk
    obtain ⟨μ2, e2, M2, K2, _, _⟩ := taste_MI M1 hm
    have r1 := (KP_1 K1).trans h1
    rw [h1] at e1
    rw [r1] at e2
    have hmi : mm_mixIn k μ = some (a (10 + 2 * k)) := by
      rw [mmixIn_eq μ (by omega) (by omega), h1]; unfold mixA; rw [Int.toNat_natCast]
    rw [mm_jarsLike_4, h1, if_neg (by omega), hmi, sb, e1, sb, e2, sb, cnF]
    by_cases c : tau (sp a) (a (10 + 2 * k)) = tau (sp a) m
    · rw [if_pos c, if_pos c, mm_jarsLike_38, w32_eq (by omega) (by omega), bnd_eq, bnd_eq, e3]
      obtain ⟨μ', e, M', K⟩ := ih (k + 1) n (x + 1) μ2 M2 ((KP_1 K2).trans r1) (by omega) (by omega) (by omega) (by omega)
      refine ⟨μ', ?_, M', KP_tr K1 (KP_tr K2 K)⟩
      rw [← Int.add_assoc]; exact e
    · rw [if_neg c, if_neg c, mm_jarsLike_38, w32_eq (by omega) (by omega), bnd_eq, bnd_eq, e3]
      obtain ⟨μ', e, M', K⟩ := ih (k + 1) n (x + 0) μ2 M2 ((KP_1 K2).trans r1) (by omega) (by omega) (by omega) (by omega)
      refine ⟨μ', ?_, M', KP_tr K1 (KP_tr K2 K)⟩
      rw [← Int.add_assoc]; exact e
theorem xjl_lp {ν : Mem} {b : Nat → Int} {r : Nat → Int} {k0 : Nat} {t v : Int} (w : Wf b t) (S : SRel b ν 10) (L : LK ν r k0) (j : Nat) : ∀ (k n : Nat) (x : Int), (k : Int) + j = b 8 → j < n → 0 ≤ x → x ≤ k → xx_jarsLike_4 n v x k ν = some (x + cnF b (tau (spn r (-5) k0)) v j k) := by
  have w8 := w.2.1
  induction j with
  | zero =>
    intro k n x hk hn hx hx2
    obtain ⟨n, rfl⟩ : ∃ m, n = m + 1 := ⟨n - 1, by omega⟩
    rw [xx_jarsLike_4, S.1, if_pos (by omega), xx_jarsLike_44, cnF, Int.add_zero]
  | succ j ih =>
    intro k n x hk hn hx hx2
    obtain ⟨n, rfl⟩ : ∃ m, n = m + 1 := ⟨n - 1, by omega⟩
    have e3 : w32 ((k : Int) + 1) = ((k + 1 : Nat) : Int) := by rw [w32_eq (by omega) (by omega)]; omega
    have hm : isM (b (10 + 2 * k)) := (w.2.2.1 k (by omega)).1
    rw [xx_jarsLike_4, S.1, if_neg (by omega), aget_eq (by omega) (by omega), sb, Int.toNat_natCast, (S.2.2.2.2.1 k (by omega)).2, leastLike_eq L hm, sb, cnF]
    by_cases c : tau (spn r (-5) k0) (b (10 + 2 * k)) = v
    · rw [if_pos c, if_pos c, w32_eq (by omega) (by omega), bnd_eq, xx_jarsLike_38, bnd_eq, e3, ih (k + 1) n (x + 1) (by omega) (by omega) (by omega) (by omega), Int.add_assoc]
    · rw [if_neg c, if_neg c, xx_jarsLike_38, bnd_eq, e3, ih (k + 1) n x (by omega) (by omega) (by omega) (by omega), Int.zero_add]
theorem sim_mixOf (m v : Int) : SIM (mm_mixOf m v) (xx_mixOf m v) := by
  intro μ ν t h0 ht M X
  rw [mm_mixOf, xx_mixOf, isMix_eq, sb, xisMix_eq, sb]
  by_cases m1 : isM m
  · have hne : ¬ (1 : Int) = 0 := by decide
    rw [if_pos m1, if_neg hne, if_neg hne, in_eq, sb]
    by_cases c2 : 0 ≤ v ∧ v ≤ 6
    · rw [if_pos c2, if_neg hne]
      rcases (show v = 0 ∨ v = 1 ∨ v = 2 ∨ v = 3 ∨ v = 4 ∨ v = 5 ∨ v = 6 by omega) with rfl | rfl | rfl | rfl | rfl | rfl | rfl
      · rw [if_neg (by decide), if_neg (by decide), if_pos rfl, mm_told, if_pos (by decide), units_eq m1, sb, xunits_eq m1, sb, sb, mm_mixOf_53]
        exact ⟨_, _, _, rfl, rfl, MI_mono M (by omega), X⟩
      · rw [if_neg (by decide), if_neg (by decide), if_neg (by decide), if_pos rfl, mm_told, if_neg (by decide), if_pos (by decide), price_1 M m1, sb, price_X M.1 X.1 m1, sb, sb, mm_mixOf_53]
        exact ⟨_, _, _, rfl, rfl, MI_mono M (by omega), X⟩
      · obtain ⟨μ', ν', e1, e2, M', K, L, F⟩ := taste_2 M X m1
        rw [if_neg (by decide), if_neg (by decide), if_neg (by decide), if_neg (by decide), if_pos rfl, mm_told, if_neg (by decide), if_neg (by decide), if_pos (by decide), e1, sb, e2, sb, sb, mm_mixOf_53]
        exact ⟨_, _, _, rfl, rfl, q_end M' K X F ⟨_, _, L⟩⟩
      · obtain ⟨μ', ν', e1, e2, M', K, L, F⟩ := taste_2 M X m1
        rw [if_neg (by decide), if_neg (by decide), if_neg (by decide), if_neg (by decide), if_neg (by decide), if_pos rfl, mm_told, if_neg (by decide), if_neg (by decide), if_neg (by decide), if_pos (by decide), e1, sb, e2, sb]
        by_cases z : tau (sp (μ 1)) m = 0
        · rw [if_pos z, if_pos z, mm_told_62, xx_mixOf_88, sb, mm_mixOf_53]
          exact ⟨_, _, _, rfl, rfl, q_end M' K X F ⟨_, _, L⟩⟩
        · rw [if_neg z, if_neg z, mm_told_62, xx_mixOf_88, sb, mm_mixOf_53]
          exact ⟨_, _, _, rfl, rfl, q_end M' K X F ⟨_, _, L⟩⟩
      · obtain ⟨d, μ', ν', e1, e2, dm, M', K, T, F⟩ := cheap_2 M X m1
        rw [if_neg (by decide), if_neg (by decide), if_neg (by decide), if_neg (by decide), if_neg (by decide), if_neg (by decide), if_pos rfl, mm_told, if_neg (by decide), if_neg (by decide), if_neg (by decide), if_neg (by decide), e1, sb, e2, sb, sb, mm_mixOf_53]
        exact ⟨_, _, _, rfl, rfl, q_end M' K X F T⟩
      · have hJ : JT ν := by obtain ⟨r, k, L⟩ := X.2.1; exact L.1
        rw [if_pos rfl, if_neg (by decide), if_neg (by decide), if_neg (by decide), if_neg (by decide), if_neg (by decide), if_pos rfl, mixed_eq m1 m1, sb, twice_eq hJ m1, sb, mm_mixOf_53]
        exact ⟨_, _, _, rfl, rfl, MI_mono M (by omega), X⟩
      · obtain ⟨ν', e2, L, F⟩ := taste_X M.1 X.1 X.2.1 m1
        have w8 := M.1.2.1
        obtain ⟨μ', e1, M', K⟩ := mjl_lp m1 (μ 1 8).toNat 0 FU 0 μ M rfl (by omega) (by have := FU_ge; omega) (by omega) (by omega)
        have e3 := xjl_lp (v := tau (sp (μ 1)) m) M.1 (q_SRel X.1 F) L (μ 1 8).toNat 0 FU 0 (by omega) (by have := FU_ge; omega) (by omega) (by omega)
        rw [show ((0 : Nat) : Int) = 0 from rfl] at e1 e3
        rw [if_neg (by decide), if_pos rfl, if_neg (by decide), if_neg (by decide), if_neg (by decide), if_neg (by decide), if_neg (by decide), if_neg (by decide), if_pos rfl, mm_jarsLike, e1, sb, e2, sb, xx_jarsLike, e3, sb, mm_mixOf_53]
        exact ⟨_, _, _, rfl, rfl, q_end M' K X F ⟨_, _, L⟩⟩
    · rw [if_neg c2, if_pos rfl, if_neg (by omega), if_neg (by omega), if_neg (by omega), if_neg (by omega), if_neg (by omega), if_neg (by omega), if_neg (by omega), mm_mixOf_17]
      exact ⟨_, _, _, rfl, rfl, MI_mono M (by omega), X⟩
  · rw [if_neg m1, if_pos rfl, if_pos rfl, mm_mixOf_17]
    exact ⟨_, _, _, rfl, rfl, MI_mono M (by omega), X⟩
/-- questions that leave the memory alone -/
def SIQ (f g : Mem → Option Int) : Prop := ∀ μ ν t, 0 ≤ t → t ≤ 900000000 → MI μ t → XI ν μ → ∃ r, f μ = some r ∧ g ν = some r
theorem siq_ranked (x : Int) : SIQ (mm_ranked x) (xx_ranked x) := by
  intro μ ν t h0 ht M X
  have w8 := M.1.2.1
  rw [mm_ranked, xx_ranked, X.1.1]
  by_cases c : 0 ≤ x
  · rw [if_pos c, if_pos c]
    by_cases d : μ 1 8 ≤ x
    · rw [if_pos d, if_pos d, mm_ranked_30, xx_ranked_32]
      exact ⟨_, rfl, rfl⟩
    · rw [if_neg d, if_neg d, mnumberOf_eq μ c (by omega), sb, mm_ranked_30, aget_eq c (by omega), sb, (X.1.2.2.2.2.1 x.toNat (by omega)).1, xx_ranked_32]
      exact ⟨_, rfl, rfl⟩
  · rw [if_neg c, if_neg c, mm_ranked_30]
    exact ⟨_, rfl, rfl⟩
theorem siq_ruleOf (x : Int) : SIQ (mm_ruleOf x) (xx_ruleOf x) := by
  intro μ ν t h0 ht M X
  have w34 := M.1.2.2.2.2.1
  rw [mm_ruleOf, xx_ruleOf, X.1.2.2.1, w32_eq (by omega) (by omega), in_eq, sb]
  by_cases c : 0 ≤ x ∧ x ≤ μ 1 34 - 1
  · rw [if_pos c, if_neg (by decide), if_neg (by omega), if_neg (by omega), w32_eq (by omega) (by omega), aget_eq (by omega) (by omega), sb, mm_ruleOf_30, aget_eq c.1 (by omega), sb, X.1.2.2.2.2.2.1 x.toNat (by omega), xx_ruleOf_28, show (35 + x).toNat = 35 + x.toNat by omega]
    exact ⟨_, rfl, rfl⟩
  · rw [if_neg c, if_pos rfl, mm_ruleOf_30]
    by_cases d : x < 0
    · rw [if_pos d, xx_ruleOf_27, xx_ruleOf_28]
      exact ⟨_, rfl, rfl⟩
    · rw [if_neg d, if_pos (by omega), xx_ruleOf_27, xx_ruleOf_28]
      exact ⟨_, rfl, rfl⟩
theorem siq_waiting (x : Int) : SIQ (mm_waiting x) (xx_waiting x) := by
  intro μ ν t h0 ht M X
  have w43 := M.1.2.2.2.2.2.2.1
  rw [mm_waiting, xx_waiting, X.1.2.2.2.1]
  by_cases c : 0 ≤ x
  · rw [if_pos c, if_pos c]
    by_cases d : μ 1 43 ≤ x
    · rw [if_pos d, if_pos d, mm_waiting_34, xx_waiting_32]
      exact ⟨_, rfl, rfl⟩
    · rw [if_neg d, if_neg d, w32_eq (by omega) (by omega), aget_eq (by omega) (by omega), sb, mm_waiting_34, aget_eq c (by omega), sb, X.1.2.2.2.2.2.2.2.1 x.toNat (by omega), xx_waiting_32, show (44 + x).toNat = 44 + x.toNat by omega]
      exact ⟨_, rfl, rfl⟩
  · rw [if_neg c, if_neg c, mm_waiting_34]
    exact ⟨_, rfl, rfl⟩
theorem siq_together (x y : Int) : SIQ (fun _ => mm_together x y) (xx_together x y) := by
  intro μ ν t h0 ht M X
  have hJ : JT ν := by obtain ⟨r, k, L⟩ := X.2.1; exact L.1
  show ∃ r, mm_together x y = some r ∧ xx_together x y ν = some r
  rw [mm_together, xx_together, isMix_eq, sb, xisMix_eq, sb]
  by_cases a : isM x
  · rw [if_pos a, if_neg (by decide), if_neg (by decide), isMix_eq, sb, xisMix_eq, sb]
    by_cases b : isM y
    · rw [if_pos b, if_neg (by decide), if_neg (by decide), mixed_eq a b, sb, join_eq hJ a b, sb, mm_together_24, xx_together_28]
      exact ⟨_, rfl, rfl⟩
    · rw [if_neg b, if_pos rfl, if_pos rfl, mm_together_22, mm_together_24, xx_together_26, xx_together_28]
      exact ⟨_, rfl, rfl⟩
  · rw [if_neg a, if_pos rfl, if_pos rfl, mm_together_22, mm_together_24, xx_together_26, xx_together_28]
    exact ⟨_, rfl, rfl⟩
