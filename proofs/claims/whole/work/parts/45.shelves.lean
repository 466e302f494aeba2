/-! shelves; counts -/
def nxF (a : Nat → Int) (T : Int → Int) (v : Int) : Nat → Nat → Int → Int
  | 0, _, x => x
  | j + 1, k, x => nxF a T v j (k + 1) (if T (a (10 + 2 * k)) ≤ v then x else if x = -5 then T (a (10 + 2 * k)) else if x ≤ T (a (10 + 2 * k)) then x else T (a (10 + 2 * k)))
def nx (a : Nat → Int) (T : Int → Int) (v : Int) : Int := nxF a T v (a 8).toNat 0 (-5)
theorem nxF_b {a : Nat → Int} {T : Int → Int} {v : Int} {n : Nat} (j : Nat) : ∀ (k : Nat) (x : Int), k + j = n → (x = -5 ∨ (v < x ∧ ∃ q, q < n ∧ T (a (10 + 2 * q)) = x)) → (nxF a T v j k x = -5 ∨ (v < nxF a T v j k x ∧ ∃ q, q < n ∧ T (a (10 + 2 * q)) = nxF a T v j k x)) := by
  induction j with
  | zero => intro k x hk hx; exact hx
  | succ j ih =>
    intro k x hk hx
    unfold nxF
    refine ih (k + 1) _ (by omega) ?_
    split
    · exact hx
    · split
      · right; exact ⟨by omega, k, by omega, rfl⟩
      · split
        · exact hx
        · right; exact ⟨by omega, k, by omega, rfl⟩
theorem nx_b (a : Nat → Int) (T : Int → Int) (v : Int) : nx a T v = -5 ∨ (v < nx a T v ∧ ∃ q, q < (a 8).toNat ∧ T (a (10 + 2 * q)) = nx a T v) := nxF_b (a 8).toNat 0 (-5) (by omega) (Or.inl rfl)
/-- how many jars have a taste above v -/
def gtF (a : Nat → Int) (T : Int → Int) (v : Int) : Nat → Nat
  | 0 => 0
  | j + 1 => gtF a T v j + if v < T (a (10 + 2 * j)) then 1 else 0
theorem gtF_le (a : Nat → Int) (T : Int → Int) (v : Int) (j : Nat) : gtF a T v j ≤ j := by
  induction j with
  | zero => exact Nat.le_refl 0
  | succ j ih => unfold gtF; split <;> omega
theorem gtF_mono {a : Nat → Int} {T : Int → Int} {v w : Int} (h : v < w) (j : Nat) : gtF a T w j ≤ gtF a T v j := by
  induction j with
  | zero => exact Nat.le_refl 0
  | succ j ih =>
    unfold gtF
    split
    · rw [if_pos (by omega)]; omega
    · omega
theorem gtF_lt {a : Nat → Int} {T : Int → Int} {v w : Int} (h : v < w) (j : Nat) (hq : ∃ q, q < j ∧ T (a (10 + 2 * q)) = w) : gtF a T w j < gtF a T v j := by
  induction j with
  | zero => obtain ⟨q, h1, _⟩ := hq; omega
  | succ j ih =>
    obtain ⟨q, h1, h2⟩ := hq
    unfold gtF
    by_cases c : q = j
    · subst c
      have := gtF_mono (a := a) (T := T) h q
      rw [if_neg (by omega), if_pos (by omega)]
      omega
    · have := ih ⟨q, by omega, h2⟩
      split
      · rw [if_pos (by omega)]; omega
      · omega
def shC (a : Nat → Int) (T : Int → Int) : Nat → Int → Int
  | 0, _ => 0
  | f + 1, x => if x = -5 then 0 else 1 + shC a T f (nx a T x)
theorem mnx_lp {a : Nat → Int} {t v : Int} (j : Nat) : ∀ (k n : Nat) (x : Int) (μ : Mem), MI μ t → μ 1 = a → (k : Int) + j = a 8 → j < n → ∃ μ', mm_nextShelf_5 n v x k μ = some (nxF a (tau (sp a)) v j k x, μ') ∧ MI μ' t ∧ KP μ μ' := by
  induction j with
  | zero =>
    intro k n x μ M h1 hk hn
    obtain ⟨n, rfl⟩ : ∃ m, n = m + 1 := ⟨n - 1, by omega⟩
    rw [mm_nextShelf_5, h1, if_pos (by omega), mm_nextShelf_58, nxF]
    exact ⟨μ, rfl, M, KP_rf μ⟩
  | succ j ih =>
    intro k n x μ M h1 hk hn
    obtain ⟨n, rfl⟩ : ∃ m, n = m + 1 := ⟨n - 1, by omega⟩
    have w8 := M.1.2.1
    rw [h1] at w8
    have e3 : w32 ((k : Int) + 1) = ((k + 1 : Nat) : Int) := by rw [w32_eq (by omega) (by omega)]; omega
    have mk : isM (a (10 + 2 * k)) := by have := (M.1.2.2.1 k (by rw [h1]; omega)).1; rwa [h1] at this
    obtain ⟨μ1, e1, M1, K1, _, _⟩ := taste_MI M mk
    have r1 := (KP_1 K1).trans h1
    rw [h1] at e1
    have hmi : mm_mixIn k μ = some (a (10 + 2 * k)) := by
      rw [mmixIn_eq μ (by omega) (by omega), h1]; unfold mixA; rw [Int.toNat_natCast]
    have go : ∀ y, ∃ μ', mm_nextShelf_5 n v y ((k + 1 : Nat) : Int) μ1 = some (nxF a (tau (sp a)) v j (k + 1) y, μ') ∧ MI μ' t ∧ KP μ μ' := fun y => by
      obtain ⟨μ', e, M', K⟩ := ih (k + 1) n y μ1 M1 r1 (by omega) (by omega)
      exact ⟨μ', e, M', KP_tr K1 K⟩
    rw [mm_nextShelf_5, h1, if_neg (by omega), hmi, sb, e1, sb, bnd_eq, nxF]
    by_cases c1 : tau (sp a) (a (10 + 2 * k)) ≤ v
    · rw [if_pos c1, if_pos c1, mm_nextShelf_50, mm_nextShelf_51, bnd_eq, e3]; exact go _
    · rw [if_neg c1, if_neg c1]
      by_cases c2 : x = -5
      · rw [if_pos c2, if_pos c2, mm_nextShelf_45, mm_nextShelf_51, bnd_eq, e3]; exact go _
      · rw [if_neg c2, if_neg c2]
        by_cases c3 : x ≤ tau (sp a) (a (10 + 2 * k))
        · rw [if_pos c3, if_pos c3, mm_nextShelf_50, mm_nextShelf_51, bnd_eq, e3]; exact go _
        · rw [if_neg c3, if_neg c3, mm_nextShelf_45, mm_nextShelf_51, bnd_eq, e3]; exact go _
theorem mnext_eq {μ : Mem} {t v : Int} (M : MI μ t) : ∃ μ', mm_nextShelf v μ = some (nx (μ 1) (tau (sp (μ 1))) v, μ') ∧ MI μ' t ∧ KP μ μ' := by
  have w8 := M.1.2.1
  obtain ⟨μ', e, M', K⟩ := mnx_lp (v := v) (μ 1 8).toNat 0 FU (-5) μ M rfl (by omega) (by have := FU_ge; omega)
  exact ⟨μ', by rw [mm_nextShelf]; exact e, M', K⟩
theorem xnx_lp {ν : Mem} {b : Nat → Int} {r : Nat → Int} {k0 : Nat} {t v : Int} (w : Wf b t) (S : SRel b ν 10) (L : LK ν r k0) (j : Nat) : ∀ (k n : Nat) (x : Int), (k : Int) + j = b 8 → j < n → xx_nextShelf_5 n v x k ν = some (nxF b (tau (spn r (-5) k0)) v j k x) := by
  have w8 := w.2.1
  induction j with
  | zero =>
    intro k n x hk hn
    obtain ⟨n, rfl⟩ : ∃ m, n = m + 1 := ⟨n - 1, by omega⟩
    rw [xx_nextShelf_5, S.1, if_pos (by omega), xx_nextShelf_61, nxF]
  | succ j ih =>
    intro k n x hk hn
    obtain ⟨n, rfl⟩ : ∃ m, n = m + 1 := ⟨n - 1, by omega⟩
    have e3 : w32 ((k : Int) + 1) = ((k + 1 : Nat) : Int) := by rw [w32_eq (by omega) (by omega)]; omega
    have hm : isM (b (10 + 2 * k)) := (w.2.2.1 k (by omega)).1
    rw [xx_nextShelf_5, S.1, if_neg (by omega), aget_eq (by omega) (by omega), sb, Int.toNat_natCast, (S.2.2.2.2.1 k (by omega)).2, leastLike_eq L hm, sb, nxF]
    by_cases c1 : tau (spn r (-5) k0) (b (10 + 2 * k)) ≤ v
    · rw [if_pos c1, if_pos c1, xx_nextShelf_55, bnd_eq, e3]; exact ih _ _ _ (by omega) (by omega)
    · rw [if_neg c1, if_neg c1]
      by_cases c2 : x = -5
      · rw [if_pos c2, if_pos c2, xx_nextShelf_52, xx_nextShelf_55, bnd_eq, e3]; exact ih _ _ _ (by omega) (by omega)
      · rw [if_neg c2, if_neg c2]
        by_cases c3 : x ≤ tau (spn r (-5) k0) (b (10 + 2 * k))
        · rw [if_pos c3, if_pos c3, xx_nextShelf_55, bnd_eq, e3]; exact ih _ _ _ (by omega) (by omega)
        · rw [if_neg c3, if_neg c3, xx_nextShelf_52, xx_nextShelf_55, bnd_eq, e3]; exact ih _ _ _ (by omega) (by omega)
theorem xnext_eq {ν : Mem} {a : Nat → Int} {t v : Int} (w : Wf a t) (S : SRel a ν 10) (L : LK ν (rf a) (rn a)) : xx_nextShelf v ν = some (nx a (tau (sp a)) v) := by
  have w8 := w.2.1
  have := xnx_lp (v := v) w S L (a 8).toNat 0 FU (-5) (by omega) (by have := FU_ge; omega)
  rw [xx_nextShelf]
  exact this
theorem mshs_lp {a : Nat → Int} {t : Int} (f : Nat) : ∀ (n : Nat) (x p : Int) (μ : Mem), MI μ t → μ 1 = a → f < n → 0 ≤ x → x + f ≤ 1000 → gtF a (tau (sp a)) p (a 8).toNat ≤ f → ∃ μ', mm_shelves_8 n x (nx a (tau (sp a)) p) μ = some (x + shC a (tau (sp a)) (f + 1) (nx a (tau (sp a)) p), μ') ∧ MI μ' t ∧ KP μ μ' := by
  induction f with
  | zero =>
    intro n x p μ M h1 hn hx hx2 hg
    obtain ⟨n, rfl⟩ : ∃ m, n = m + 1 := ⟨n - 1, by omega⟩
    rcases nx_b a (tau (sp a)) p with h | ⟨h, hq⟩
    · rw [mm_shelves_8, h, if_pos rfl, mm_shelves_26, shC, if_pos rfl, Int.add_zero]
      exact ⟨μ, rfl, M, KP_rf μ⟩
    · have := gtF_lt h _ hq; omega
  | succ f ih =>
    intro n x p μ M h1 hn hx hx2 hg
    obtain ⟨n, rfl⟩ : ∃ m, n = m + 1 := ⟨n - 1, by omega⟩
    by_cases c : nx a (tau (sp a)) p = -5
    · rw [mm_shelves_8, c, if_pos rfl, mm_shelves_26, shC, if_pos rfl, Int.add_zero]
      exact ⟨μ, rfl, M, KP_rf μ⟩
    · obtain ⟨h, hq⟩ := (nx_b a (tau (sp a)) p).resolve_left c
      have hl := gtF_lt h _ hq
      obtain ⟨μ1, e1, M1, K1⟩ := mnext_eq (v := nx a (tau (sp a)) p) M
      rw [h1] at e1
      obtain ⟨μ', e, M', K⟩ := ih n (x + 1) (nx a (tau (sp a)) p) μ1 M1 ((KP_1 K1).trans h1) (by omega) (by omega) (by omega) (by omega)
      rw [mm_shelves_8, if_neg c, w32_eq (by omega) (by omega), bnd_eq, e1, sb, bnd_eq]
      refine ⟨μ', ?_, M', KP_tr K1 K⟩
      rw [shC, if_neg c, ← Int.add_assoc]
      exact e
theorem xshs_lp {ν : Mem} {a : Nat → Int} {t : Int} (w : Wf a t) (S : SRel a ν 10) (L : LK ν (rf a) (rn a)) (f : Nat) : ∀ (n : Nat) (x p : Int), f < n → 0 ≤ x → x + f ≤ a 8 → gtF a (tau (sp a)) p (a 8).toNat ≤ f → -1 ≤ p → xx_shelves_21 n x (nx a (tau (sp a)) p) x ν = some (x + shC a (tau (sp a)) (f + 1) (nx a (tau (sp a)) p), ν) := by
  have w8 := w.2.1
  induction f with
  | zero =>
    intro n x p hn hx hx2 hg hp
    obtain ⟨n, rfl⟩ : ∃ m, n = m + 1 := ⟨n - 1, by omega⟩
    rcases nx_b a (tau (sp a)) p with h | ⟨h, hq⟩
    · rw [xx_shelves_21, S.1, h, shC, if_pos rfl, Int.add_zero]
      by_cases d : a 8 ≤ x
      · rw [if_pos d, xx_shelves_51]
      · rw [if_neg d, if_pos (by decide), xx_shelves_51]
    · have := gtF_lt h _ hq; omega
  | succ f ih =>
    intro n x p hn hx hx2 hg hp
    obtain ⟨n, rfl⟩ : ∃ m, n = m + 1 := ⟨n - 1, by omega⟩
    by_cases c : nx a (tau (sp a)) p = -5
    · rw [xx_shelves_21, S.1, c, shC, if_pos rfl, Int.add_zero, if_neg (by omega), if_pos (by decide), xx_shelves_51]
    · obtain ⟨h, hq⟩ := (nx_b a (tau (sp a)) p).resolve_left c
      have hl := gtF_lt h _ hq
      have hs : shC a (tau (sp a)) (f + 1 + 1) (nx a (tau (sp a)) p) = 1 + shC a (tau (sp a)) (f + 1) (nx a (tau (sp a)) (nx a (tau (sp a)) p)) := by rw [shC, if_neg c]
      rw [xx_shelves_21, S.1, if_neg (by omega), if_neg (by omega), w32_eq (by omega) (by omega), bnd_eq, xnext_eq w S L, sb, bnd_eq, ih n (x + 1) (nx a (tau (sp a)) p) (by omega) (by omega) (by omega) (by omega) (by omega), hs, ← Int.add_assoc]
theorem sim_shelves : SIM mm_shelves xx_shelves := by
  intro μ ν t h0 ht M X
  have w8 := M.1.2.1
  obtain ⟨μ1, e1, M1, K1⟩ := mnext_eq (v := -1) M
  have hg := gtF_le (μ 1) (tau (sp (μ 1))) (-1) (μ 1 8).toNat
  obtain ⟨μ2, e2, M2, K2⟩ := mshs_lp (a := μ 1) (μ 1 8).toNat FU 0 (-1) μ1 M1 (KP_1 K1) (by have := FU_ge; omega) (by omega) (by omega) hg
  obtain ⟨ν1, e3, L1, F1⟩ := learn_Q M.1 X.1 X.2.1
  have S1 := q_SRel X.1 F1
  have e4 := xshs_lp M.1 S1 L1 (μ 1 8).toNat FU 0 (-1) (by have := FU_ge; omega) (by omega) (by omega) hg (by omega)
  rw [mm_shelves, e1, sb, bnd_eq, xx_shelves, e3, sb, xnext_eq M.1 S1 L1, sb]
  exact ⟨_, _, _, e2, e4, q_end M2 (KP_tr K1 K2) X F1 ⟨_, _, L1⟩⟩
noncomputable def unF (a : Nat → Int) : Nat → Nat → Int
  | 0, _ => 0
  | j + 1, k => un (a (10 + 2 * k)) + unF a j (k + 1)
theorem muj_lp {μ : Mem} {t : Int} (w : Wf (μ 1) t) (j : Nat) : ∀ (k n : Nat) (x : Int), (k : Int) + j = μ 1 8 → j < n → 0 ≤ x → x ≤ 16 * k → mm_unitsInJars_4 n x k μ = some (x + unF (μ 1) j k) := by
  have w8 := w.2.1
  induction j with
  | zero =>
    intro k n x hk hn hx hx2
    obtain ⟨n, rfl⟩ : ∃ m, n = m + 1 := ⟨n - 1, by omega⟩
    rw [mm_unitsInJars_4, if_pos (by omega), mm_unitsInJars_32, unF, Int.add_zero]
  | succ j ih =>
    intro k n x hk hn hx hx2
    obtain ⟨n, rfl⟩ : ∃ m, n = m + 1 := ⟨n - 1, by omega⟩
    have e3 : w32 ((k : Int) + 1) = ((k + 1 : Nat) : Int) := by rw [w32_eq (by omega) (by omega)]; omega
    have hm : isM (μ 1 (10 + 2 * k)) := (w.2.2.1 k (by omega)).1
    have hmi : mm_mixIn k μ = some (μ 1 (10 + 2 * k)) := by
      rw [mmixIn_eq μ (by omega) (by omega)]; unfold mixA; rw [Int.toNat_natCast]
    have hu := un_b (μ 1 (10 + 2 * k))
    rw [mm_unitsInJars_4, if_neg (by omega), hmi, sb, units_eq hm, sb, w32_eq (by omega) (by omega), bnd_eq, bnd_eq, e3, ih (k + 1) n _ (by omega) (by omega) (by omega) (by omega), unF, Int.add_assoc]
theorem xuj_lp {ν : Mem} {a : Nat → Int} {t : Int} (w : Wf a t) (S : SRel a ν 10) (j : Nat) : ∀ (k n : Nat) (x : Int), (k : Int) + j = a 8 → j < n → 0 ≤ x → x ≤ 16 * k → xx_unitsInJars_4 n x k ν = some (x + unF a j k) := by
  have w8 := w.2.1
  induction j with
  | zero =>
    intro k n x hk hn hx hx2
    obtain ⟨n, rfl⟩ : ∃ m, n = m + 1 := ⟨n - 1, by omega⟩
    rw [xx_unitsInJars_4, S.1, if_pos (by omega), xx_unitsInJars_36, unF, Int.add_zero]
  | succ j ih =>
    intro k n x hk hn hx hx2
    obtain ⟨n, rfl⟩ : ∃ m, n = m + 1 := ⟨n - 1, by omega⟩
    have e3 : w32 ((k : Int) + 1) = ((k + 1 : Nat) : Int) := by rw [w32_eq (by omega) (by omega)]; omega
    have hm : isM (a (10 + 2 * k)) := (w.2.2.1 k (by omega)).1
    have hu := un_b (a (10 + 2 * k))
    rw [xx_unitsInJars_4, S.1, if_neg (by omega), aget_eq (by omega) (by omega), sb, Int.toNat_natCast, (S.2.2.2.2.1 k (by omega)).2, xunits_eq hm, sb, w32_eq (by omega) (by omega), bnd_eq, bnd_eq, e3, ih (k + 1) n _ (by omega) (by omega) (by omega) (by omega), unF, Int.add_assoc]
theorem sr_8 {a : Nat → Int} {t : Int} (w : Wf a t) : ∃ k : Nat, k ≤ 8 ∧ sr a = (k : Int) := by
  have := rk_b (rf a) (-5) (rn a)
  have h34 := w.2.2.2.2.1
  refine ⟨(sr a).toNat, ?_, ?_⟩
  · unfold sr rn at *; omega
  · unfold sr rn at *; omega
theorem strength_2 {μ ν : Mem} {t : Int} (M : MI μ t) (X : XI ν μ) : ∃ μ' ν', mm_strength μ = some (sr (μ 1), μ') ∧ xx_strength ν = some (sr (μ 1), ν') ∧ MI μ' (t + 1500000) ∧ XI ν' μ' := by
  obtain ⟨μ', e, M', K⟩ := strength_MI M
  obtain ⟨ν', e2, T, f⟩ := strength_X M.1 X.1 X.2.1
  exact ⟨μ', ν', e, e2, q_end M' K X (QF_of (fun p q hp => f p q (by omega) (by omega) (by omega) (by omega))) T⟩
theorem sim_count (x : Int) : SIM (mm_count x) (xx_count x) := by
  intro μ ν t h0 ht M X
  have keep : MI μ (t + 1500000) ∧ XI ν μ := ⟨MI_mono M (by omega), X⟩
  have w8 := M.1.2.1
  by_cases c : 0 ≤ x ∧ x ≤ 17
  · rcases (show x = 0 ∨ x = 1 ∨ x = 2 ∨ x = 3 ∨ x = 4 ∨ x = 5 ∨ x = 6 ∨ x = 7 ∨ x = 8 ∨ x = 9 ∨ x = 10 ∨ x = 11 ∨ x = 12 ∨ x = 13 ∨ x = 14 ∨ x = 15 ∨ x = 16 ∨ x = 17 by omega) with rfl | rfl | rfl | rfl | rfl | rfl | rfl | rfl | rfl | rfl | rfl | rfl | rfl | rfl | rfl | rfl | rfl | rfl
    · exact ⟨μ 1 8, μ, ν, rfl, by rw [← X.1.1]; rfl, keep⟩
    · exact ⟨μ 1 34, μ, ν, rfl, by rw [← X.1.2.2.1]; rfl, keep⟩
    · obtain ⟨μ', ν', e, e2, fin⟩ := strength_2 M X
      refine ⟨sr (μ 1), μ', ν', ?_, ?_, fin⟩
      · show (mm_strength μ).bind _ = _
        rw [e, sb]
      · show (xx_strength ν).bind _ = _
        rw [e2, sb]
    · obtain ⟨μ', ν', e, e2, fin⟩ := strength_2 M X
      obtain ⟨k, hk, hs⟩ := sr_8 M.1
      refine ⟨p3 k, μ', ν', ?_, ?_, fin⟩
      · show (mm_strength μ).bind _ = _
        rw [e, sb, hs, power_eq hk, sb]
      · show (xx_strength ν).bind _ = _
        rw [e2, sb, hs, pget_eq (by omega), sb]
    · obtain ⟨μ', ν', e, e2, fin⟩ := strength_2 M X
      obtain ⟨k, hk, hs⟩ := sr_8 M.1
      have h8 : w32 (8 - (k : Int)) = ((8 - k : Nat) : Int) := by rw [w32_eq (by omega) (by omega)]; omega
      refine ⟨p3 (8 - k), μ', ν', ?_, ?_, fin⟩
      · show (mm_strength μ).bind _ = _
        rw [e, sb, hs, h8, power_eq (by omega), sb]
      · show (xx_strength ν).bind _ = _
        rw [e2, sb, hs, h8, pget_eq (by omega), sb]
    · obtain ⟨r, μ', ν', e, e2, fin⟩ := sim_shelves μ ν t h0 ht M X
      refine ⟨r, μ', ν', ?_, ?_, fin⟩
      · show (mm_shelves μ).bind _ = _
        rw [e, sb]
      · show (xx_shelves ν).bind _ = _
        rw [e2, sb]
    · exact ⟨μ 1 43, μ, ν, rfl, by rw [← X.1.2.2.2.1]; rfl, keep⟩
    · refine ⟨μ 1 52, μ, ν, ?_, by rw [← show ν 16 0 = μ 1 52 from sacc X.1 (by omega)]; rfl, keep⟩
      show mm_count_141 7 μ = _
      rw [mm_count_141, w32_eq (x := 52 + 7) (by omega) (by omega), w32_eq (by omega) (by omega), aget_eq (by omega) (by omega), sb]; rfl
    · refine ⟨μ 1 53, μ, ν, ?_, by rw [← show ν 16 1 = μ 1 53 from sacc X.1 (by omega)]; rfl, keep⟩
      show mm_count_141 8 μ = _
      rw [mm_count_141, w32_eq (x := 52 + 8) (by omega) (by omega), w32_eq (by omega) (by omega), aget_eq (by omega) (by omega), sb]; rfl
    · refine ⟨μ 1 54, μ, ν, ?_, by rw [← show ν 16 2 = μ 1 54 from sacc X.1 (by omega)]; rfl, keep⟩
      show mm_count_141 9 μ = _
      rw [mm_count_141, w32_eq (x := 52 + 9) (by omega) (by omega), w32_eq (by omega) (by omega), aget_eq (by omega) (by omega), sb]; rfl
    · refine ⟨μ 1 55, μ, ν, ?_, by rw [← show ν 16 3 = μ 1 55 from sacc X.1 (by omega)]; rfl, keep⟩
      show mm_count_141 10 μ = _
      rw [mm_count_141, w32_eq (x := 52 + 10) (by omega) (by omega), w32_eq (by omega) (by omega), aget_eq (by omega) (by omega), sb]; rfl
    · have e1 := muj_lp M.1 (μ 1 8).toNat 0 FU 0 (by omega) (by have := FU_ge; omega) (by omega) (by omega)
      have e2 := xuj_lp M.1 X.1 (μ 1 8).toNat 0 FU 0 (by omega) (by have := FU_ge; omega) (by omega) (by omega)
      rw [show ((0 : Nat) : Int) = 0 from rfl] at e1 e2
      refine ⟨0 + unF (μ 1) (μ 1 8).toNat 0, μ, ν, ?_, ?_, keep⟩
      · show (mm_unitsInJars μ).bind _ = _
        rw [mm_unitsInJars, e1, sb]
      · show (xx_unitsInJars ν).bind _ = _
        rw [xx_unitsInJars, e2, sb]
    · refine ⟨μ 1 56, μ, ν, ?_, by rw [← show ν 16 4 = μ 1 56 from sacc X.1 (by omega)]; rfl, keep⟩
      show mm_count_159 12 μ = _
      rw [mm_count_159, w32_eq (x := 56 + 12) (by omega) (by omega), w32_eq (by omega) (by omega), aget_eq (by omega) (by omega), sb]; rfl
    · refine ⟨μ 1 57, μ, ν, ?_, by rw [← show ν 16 5 = μ 1 57 from sacc X.1 (by omega)]; rfl, keep⟩
      show mm_count_159 13 μ = _
      rw [mm_count_159, w32_eq (x := 56 + 13) (by omega) (by omega), w32_eq (by omega) (by omega), aget_eq (by omega) (by omega), sb]; rfl
    · refine ⟨μ 1 58, μ, ν, ?_, by rw [← show ν 16 6 = μ 1 58 from sacc X.1 (by omega)]; rfl, keep⟩
      show mm_count_159 14 μ = _
      rw [mm_count_159, w32_eq (x := 56 + 14) (by omega) (by omega), w32_eq (by omega) (by omega), aget_eq (by omega) (by omega), sb]; rfl
    · refine ⟨μ 1 59, μ, ν, ?_, by rw [← show ν 16 7 = μ 1 59 from sacc X.1 (by omega)]; rfl, keep⟩
      show mm_count_159 15 μ = _
      rw [mm_count_159, w32_eq (x := 56 + 15) (by omega) (by omega), w32_eq (by omega) (by omega), aget_eq (by omega) (by omega), sb]; rfl
    · exact ⟨μ 0 3, μ, ν, rfl, by rw [← X.2.2.2.1]; rfl, keep⟩
    · exact ⟨μ 0 7, μ, ν, rfl, by rw [← X.2.2.2.2.2.2.2.1]; rfl, keep⟩
  · refine ⟨-2, μ, ν, ?_, ?_, keep⟩
    · rw [mm_count]
      repeat rw [if_neg (by omega)]
    · rw [xx_count]
      repeat rw [if_neg (by omega)]
      rw [xx_count_164, xx_accountTold]
      repeat rw [if_neg (by omega)]
      rw [xx_accountTold_134, sb]
