/-! one shelf -/
def itN (a : Nat → Int) (T : Int → Int) : Nat → Int → Int
  | 0, x => x
  | k + 1, x => if x = -5 then -5 else itN a T k (nx a T x)
theorem itN_5 (a : Nat → Int) (T : Int → Int) (k : Nat) : itN a T k (-5) = -5 := by
  cases k with
  | zero => rfl
  | succ k => rw [itN, if_pos rfl]
theorem itN_b (a : Nat → Int) (T : Int → Int) (k : Nat) : ∀ p, itN a T k (nx a T p) = -5 ∨ ∃ q, q < (a 8).toNat ∧ T (a (10 + 2 * q)) = itN a T k (nx a T p) := by
  induction k with
  | zero => intro p; exact (nx_b a T p).imp id (fun h => h.2)
  | succ k ih =>
    intro p
    rw [itN]
    split
    · exact Or.inl rfl
    · exact ih _
theorem itN_end {a : Nat → Int} {T : Int → Int} (k : Nat) : ∀ p, gtF a T p (a 8).toNat ≤ k → itN a T k (nx a T p) = -5 := by
  induction k with
  | zero =>
    intro p h
    rcases nx_b a T p with c | ⟨c, hq⟩
    · exact c
    · have := gtF_lt c _ hq; omega
  | succ k ih =>
    intro p h
    rw [itN]
    split
    · rfl
    · rename_i c
      obtain ⟨c1, hq⟩ := (nx_b a T p).resolve_left c
      have := gtF_lt c1 _ hq
      exact ih _ (by omega)
theorem msh25_lp {a : Nat → Int} {t x1 x2 : Int} (f : Nat) : ∀ (n : Nat) (x4 p : Int) (μ : Mem), MI μ t → μ 1 = a → f < n → 0 ≤ x4 → x4 + f ≤ 1000 → gtF a (tau (sp a)) p (a 8).toNat ≤ f → ∃ μ', mm_shelf_25 n x1 x2 (nx a (tau (sp a)) p) x4 μ = mm_shelf_49 x2 (itN a (tau (sp a)) (x1 - x4).toNat (nx a (tau (sp a)) p)) μ' ∧ MI μ' t ∧ KP μ μ' := by
  induction f with
  | zero =>
    intro n x4 p μ M h1 hn hx hx2 hg
    obtain ⟨n, rfl⟩ : ∃ m, n = m + 1 := ⟨n - 1, by omega⟩
    have h : nx a (tau (sp a)) p = -5 := by
      rcases nx_b a (tau (sp a)) p with h | ⟨h, hq⟩
      · exact h
      · have := gtF_lt h _ hq; omega
    rw [h, itN_5, mm_shelf_25]
    refine ⟨μ, ?_, M, KP_rf μ⟩
    split
    · rfl
    · rw [if_pos rfl]
  | succ f ih =>
    intro n x4 p μ M h1 hn hx hx2 hg
    obtain ⟨n, rfl⟩ : ∃ m, n = m + 1 := ⟨n - 1, by omega⟩
    by_cases c : nx a (tau (sp a)) p = -5
    · rw [c, itN_5, mm_shelf_25]
      refine ⟨μ, ?_, M, KP_rf μ⟩
      split
      · rfl
      · rw [if_pos rfl]
    · by_cases d : x1 ≤ x4
      · rw [mm_shelf_25, if_pos d, show (x1 - x4).toNat = 0 by omega]
        exact ⟨μ, rfl, M, KP_rf μ⟩
      · obtain ⟨h, hq⟩ := (nx_b a (tau (sp a)) p).resolve_left c
        have hl := gtF_lt h _ hq
        obtain ⟨μ1, e1, M1, K1⟩ := mnext_eq (v := nx a (tau (sp a)) p) M
        rw [h1] at e1
        obtain ⟨μ', e, M', K⟩ := ih n (x4 + 1) (nx a (tau (sp a)) p) μ1 M1 ((KP_1 K1).trans h1) (by omega) (by omega) (by omega) (by omega)
        rw [mm_shelf_25, if_neg d, if_neg c, e1, sb, bnd_eq, w32_eq (by omega) (by omega), bnd_eq]
        refine ⟨μ', ?_, M', KP_tr K1 K⟩
        rw [show (x1 - x4).toNat = (x1 - (x4 + 1)).toNat + 1 by omega, itN, if_neg c]
        exact e
/-- the cheapest jar of a taste -/
noncomputable def chF (a : Nat → Int) (T : Int → Int) (v : Int) : Nat → Nat → Int → Int
  | 0, _, c => c
  | j + 1, k, c => chF a T v j (k + 1) (if T (a (10 + 2 * k)) = v then (if c = -5 then (k : Int) else if prc a (mixA a c) ≤ prc a (a (10 + 2 * k)) then c else (k : Int)) else c)
theorem chF_b (a : Nat → Int) (T : Int → Int) (v : Int) (j : Nat) : ∀ (k : Nat) (c : Int), (c = -5 ∨ (0 ≤ c ∧ c < k)) → (chF a T v j k c = -5 ∨ (0 ≤ chF a T v j k c ∧ chF a T v j k c < ((k + j : Nat) : Int))) := by
  induction j with
  | zero => intro k c h; rw [chF]; exact h.imp id (fun z => ⟨z.1, by omega⟩)
  | succ j ih =>
    intro k c h
    rw [chF, show k + (j + 1) = k + 1 + j by omega]
    refine ih (k + 1) _ ?_
    split
    · split
      · right; omega
      · split
        · rcases h with h | h
          · exact Or.inl h
          · right; omega
        · right; omega
    · rcases h with h | h
      · exact Or.inl h
      · right; omega
theorem msh69_lp {a : Nat → Int} {t v x2 : Int} (j : Nat) : ∀ (k n : Nat) (x4 x5 : Int) (μ : Mem), MI μ t → μ 1 = a → (k : Int) + j = a 8 → j < n → (x5 = -5 ∨ (0 ≤ x5 ∧ x5 < k)) → ∃ μ', mm_shelf_69 n x2 v x4 x5 k μ = mm_shelf_156 x2 v (if x4 = -5 then fjF a (tau (sp a)) v j k else x4) (chF a (tau (sp a)) v j k x5) μ' ∧ MI μ' t ∧ KP μ μ' := by
  induction j with
  | zero =>
    intro k n x4 x5 μ M h1 hk hn h5
    obtain ⟨n, rfl⟩ : ∃ m, n = m + 1 := ⟨n - 1, by omega⟩
    rw [mm_shelf_69, h1, if_pos (by omega), chF, fjF]
    refine ⟨μ, ?_, M, KP_rf μ⟩
    congr 1
    split
    · assumption
    · rfl
  | succ j ih =>
    intro k n x4 x5 μ M h1 hk hn h5
    obtain ⟨n, rfl⟩ : ∃ m, n = m + 1 := ⟨n - 1, by omega⟩
    have w8 := M.1.2.1
    have wa := M.1
    rw [h1] at w8 wa
    have e3 : w32 ((k : Int) + 1) = ((k + 1 : Nat) : Int) := by rw [w32_eq (by omega) (by omega)]; omega
    have mk : isM (a (10 + 2 * k)) := (wa.2.2.1 k (by omega)).1
    obtain ⟨μ1, e1, M1, K1, _, _⟩ := taste_MI M mk
    have r1 := (KP_1 K1).trans h1
    rw [h1] at e1
    have hmi : mm_mixIn k μ = some (a (10 + 2 * k)) := by
      rw [mmixIn_eq μ (by omega) (by omega), h1]; unfold mixA; rw [Int.toNat_natCast]
    have hmi1 : mm_mixIn k μ1 = some (a (10 + 2 * k)) := by
      rw [mmixIn_eq μ1 (by omega) (by omega), r1]; unfold mixA; rw [Int.toNat_natCast]
    have hp1 := p_price μ1 r1 wa.1 mk
    have go : ∀ y z, (z = -5 ∨ (0 ≤ z ∧ z < ((k + 1 : Nat) : Int))) → ∃ μ', mm_shelf_69 n x2 v y z ((k + 1 : Nat) : Int) μ1 = mm_shelf_156 x2 v (if y = -5 then fjF a (tau (sp a)) v j (k + 1) else y) (chF a (tau (sp a)) v j (k + 1) z) μ' ∧ MI μ' t ∧ KP μ μ' := fun y z hz => by
      obtain ⟨μ', e, M', K⟩ := ih (k + 1) n y z μ1 M1 r1 (by omega) (by omega) hz
      exact ⟨μ', e, M', KP_tr K1 K⟩
    have h109 : ∀ s0 : Int, s0 ≠ -5 → tau (sp a) (a (10 + 2 * k)) = v → ∃ μ', mm_shelf_109 (mm_shelf_69 n) x2 v x5 k s0 μ1 = mm_shelf_156 x2 v s0 (chF a (tau (sp a)) v (j + 1) k x5) μ' ∧ MI μ' t ∧ KP μ μ' := fun s0 hs hv => by
      rw [mm_shelf_109, chF, if_pos hv]
      by_cases c : x5 = -5
      · rw [if_pos c, if_pos c, mm_shelf_141, mm_shelf_148, mm_shelf_150, bnd_eq, e3]
        have := go s0 k (Or.inr (by omega))
        rwa [if_neg hs] at this
      · have h5' := h5.resolve_left c
        have m5 := mixA_M wa (k := x5) (by omega) (by omega)
        have hp5 := p_price μ1 r1 wa.1 m5
        have hmi5 : mm_mixIn x5 μ1 = some (mixA a x5) := by rw [mmixIn_eq μ1 (by omega) (by omega), r1]
        rw [if_neg c, if_neg c, hmi1, sb, hp1, sb, hmi5, sb, hp5, sb]
        by_cases d : prc a (mixA a x5) ≤ prc a (a (10 + 2 * k))
        · rw [if_pos d, if_pos d, mm_shelf_148, mm_shelf_150, bnd_eq, e3]
          have := go s0 x5 (Or.inr (by omega))
          rwa [if_neg hs] at this
        · rw [if_neg d, if_neg d, mm_shelf_141, mm_shelf_148, mm_shelf_150, bnd_eq, e3]
          have := go s0 k (Or.inr (by omega))
          rwa [if_neg hs] at this
    rw [mm_shelf_69, h1, if_neg (by omega), hmi, sb, e1, sb]
    by_cases c : tau (sp a) (a (10 + 2 * k)) = v
    · rw [if_pos c, fjF, if_pos c]
      by_cases d : x4 = -5
      · rw [if_pos d, if_pos d]
        exact h109 k (by omega) c
      · rw [if_neg d, if_neg d]
        exact h109 x4 d c
    · rw [if_neg c, mm_shelf_150, bnd_eq, e3, fjF, if_neg c, chF, if_neg c]
      exact go x4 x5 (h5.imp id (fun z => by omega))
theorem xcj_lp {ν : Mem} {b : Nat → Int} {r : Nat → Int} {k0 : Nat} {t v : Int} (w : Wf b t) (S : SRel b ν 10) (L : LK ν r k0) (j : Nat) : ∀ (k n : Nat) (c : Int), (k : Int) + j = b 8 → j < n → (c = -5 ∨ (0 ≤ c ∧ c < k)) → ∃ d, xx_cheapestJarLike_8 n v (if c = -5 then -5 else b (9 + 2 * c.toNat)) (if c = -5 then 0 else prc b (mixA b c)) k ν = some (if d = -5 then -5 else b (9 + 2 * d.toNat)) ∧ d = chF b (tau (spn r (-5) k0)) v j k c := by
  have w8 := w.2.1
  induction j with
  | zero =>
    intro k n c hk hn hc
    obtain ⟨n, rfl⟩ : ∃ m, n = m + 1 := ⟨n - 1, by omega⟩
    rw [xx_cheapestJarLike_8, S.1, if_pos (by omega), xx_cheapestJarLike_107, chF]
    exact ⟨c, rfl, rfl⟩
  | succ j ih =>
    intro k n c hk hn hc
    obtain ⟨n, rfl⟩ : ∃ m, n = m + 1 := ⟨n - 1, by omega⟩
    have e3 : w32 ((k : Int) + 1) = ((k + 1 : Nat) : Int) := by rw [w32_eq (by omega) (by omega)]; omega
    have hmn := w.2.2.1 k (by omega)
    have hm := hmn.1
    have s1 := S.2.2.2.2.1 k (by omega)
    have hmk : mixA b (k : Int) = b (10 + 2 * k) := by unfold mixA; rw [Int.toNat_natCast]
    have gk := ih (k + 1) n (k : Int) (by omega) (by omega) (Or.inr (by omega))
    rw [if_neg (show ¬ (k : Int) = -5 by omega), if_neg (show ¬ (k : Int) = -5 by omega), Int.toNat_natCast, hmk] at gk
    have gc := ih (k + 1) n c (by omega) (by omega) (hc.imp id (fun z => by omega))
    rw [xx_cheapestJarLike_8, S.1, if_neg (by omega), aget_eq (by omega) (by omega), sb, Int.toNat_natCast, s1.2, price_X w S hm, sb, chF]
    have h54 : ∀ X2 X3, xx_cheapestJarLike_54 (xx_cheapestJarLike_8 n) v X2 X3 k (prc b (b (10 + 2 * k))) ν = if tau (spn r (-5) k0) (b (10 + 2 * k)) = v then xx_cheapestJarLike_8 n v (b (9 + 2 * k)) (prc b (b (10 + 2 * k))) ((k + 1 : Nat) : Int) ν else xx_cheapestJarLike_8 n v X2 X3 ((k + 1 : Nat) : Int) ν := fun X2 X3 => by
      rw [xx_cheapestJarLike_54, xx_cheapestJarLike_59, if_neg (by decide), aget_eq (by omega) (by omega), sb, Int.toNat_natCast, s1.2, leastLike_eq L hm, sb]
      by_cases d : tau (spn r (-5) k0) (b (10 + 2 * k)) = v
      · rw [if_pos d, if_pos d, aget_eq (by omega) (by omega), sb, Int.toNat_natCast, s1.1, xx_cheapestJarLike_101, bnd_eq, e3]
      · rw [if_neg d, if_neg d, xx_cheapestJarLike_101, bnd_eq, e3]
    by_cases c5 : c = -5
    · subst c5
      rw [if_pos rfl] at gc ⊢
      rw [if_pos rfl] at gc ⊢
      rw [if_pos rfl, h54]
      by_cases d : tau (spn r (-5) k0) (b (10 + 2 * k)) = v
      · rw [if_pos d, if_pos d, if_pos rfl]; exact gk
      · rw [if_neg d, if_neg d]; exact gc
    · have hc' := hc.resolve_left c5
      have hn2 := (w.2.2.1 c.toNat (by omega)).2
      rw [if_neg c5] at gc ⊢
      rw [if_neg c5] at gc ⊢
      rw [if_neg (show ¬ b (9 + 2 * c.toNat) = -5 by omega), if_neg c5]
      by_cases d2 : prc b (mixA b c) ≤ prc b (b (10 + 2 * k))
      · rw [if_pos d2, if_pos d2, xx_cheapestJarLike_59, if_pos rfl, xx_cheapestJarLike_101, bnd_eq, e3, ite_self]
        exact gc
      · rw [if_neg d2, if_neg d2, h54]
        by_cases d : tau (spn r (-5) k0) (b (10 + 2 * k)) = v
        · rw [if_pos d, if_pos d]; exact gk
        · rw [if_neg d, if_neg d]; exact gc
