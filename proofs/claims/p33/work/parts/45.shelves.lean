/-! shelves; counts -/
def nxF (a : Nat → Int) (T : Int → Int) (v : Int) : Nat → Nat → Int → Int
  | 0, _, x => x
  | j + 1, k, x => nxF a T v j (k + 1) (if T (a (10 + 2 * k)) ≤ v then x else if x = -5 then T (a (10 + 2 * k)) else if x ≤ T (a (10 + 2 * k)) then x else T (a (10 + 2 * k)))
def nx (a : Nat → Int) (T : Int → Int) (v : Int) : Int := nxF a T v (a 8).toNat 0 (-5)
theorem nxF_b {a : Nat → Int} {T : Int → Int} {v : Int} {n : Nat} (j : Nat) : ∀ (k : Nat) (x : Int), k + j = n → (x = -5 ∨ (v < x ∧ ∃ q, q < n ∧ T (a (10 + 2 * q)) = x)) → (nxF a T v j k x = -5 ∨ (v < nxF a T v j k x ∧ ∃ q, q < n ∧ T (a (10 + 2 * q)) = nxF a T v j k x)) := by
  induction j with
  | zero => intro k x hk hx; exact hx
  | succ j ih =>
    intro k x hk hx
    unfold nxF
    refine ih (k + 1) _ (by omega) ?_
    split
    · exact hx
    · split
      · right; exact ⟨by omega, k, by omega, rfl⟩
      · split
        · exact hx
        · right; exact ⟨by omega, k, by omega, rfl⟩
theorem nx_b (a : Nat → Int) (T : Int → Int) (v : Int) : nx a T v = -5 ∨ (v < nx a T v ∧ ∃ q, q < (a 8).toNat ∧ T (a (10 + 2 * q)) = nx a T v) := nxF_b (a 8).toNat 0 (-5) (by omega) (Or.inl rfl)
/-- how many jars have a taste above v -/
def gtF (a : Nat → Int) (T : Int → Int) (v : Int) : Nat → Nat
  | 0 => 0
  | j + 1 => gtF a T v j + if v < T (a (10 + 2 * j)) then 1 else 0
theorem gtF_le (a : Nat → Int) (T : Int → Int) (v : Int) (j : Nat) : gtF a T v j ≤ j := by
  induction j with
  | zero => exact Nat.le_refl 0
  | succ j ih => unfold gtF; split <;> omega
theorem gtF_mono {a : Nat → Int} {T : Int → Int} {v w : Int} (h : v < w) (j : Nat) : gtF a T w j ≤ gtF a T v j := by
  induction j with
  | zero => exact Nat.le_refl 0
  | succ j ih =>
    unfold gtF
    split
    · rw [if_pos (by omega)]; omega
    · omega
theorem gtF_lt {a : Nat → Int} {T : Int → Int} {v w : Int} (h : v < w) (j : Nat) (hq : ∃ q, q < j ∧ T (a (10 + 2 * q)) = w) : gtF a T w j < gtF a T v j := by
  induction j with
  | zero => obtain ⟨q, h1, _⟩ := hq; omega
  | succ j ih =>
    obtain ⟨q, h1, h2⟩ := hq
    unfold gtF
    by_cases c : q = j
    · subst c
      have := gtF_mono (a := a) (T := T) h q
      rw [if_neg (by omega), if_pos (by omega)]
      omega
    · have := ih ⟨q, by omega, h2⟩
      split
      · rw [if_pos (by omega)]; omega
      · omega
def shC (a : Nat → Int) (T : Int → Int) : Nat → Int → Int
  | 0, _ => 0
  | f + 1, x => if x = -5 then 0 else 1 + shC a T f (nx a T x)
theorem xnx_lp {ν : Mem} {b : Nat → Int} {r : Nat → Int} {k0 : Nat} {t v : Int} (w : Wf b t) (S : SRel b ν 10) (L : LK ν r k0) (j : Nat) : ∀ (k n : Nat) (x : Int), (k : Int) + j = b 8 → j < n → xx_nextShelf_5 n v x k ν = some (nxF b (tau (spn r (-5) k0)) v j k x) := by
  have w8 := w.2.1
  induction j with
  | zero =>
    intro k n x hk hn
    obtain ⟨n, rfl⟩ : ∃ m, n = m + 1 := ⟨n - 1, by omega⟩
    rw [xx_nextShelf_5, S.1, if_pos (by omega), xx_nextShelf_61, nxF]
  | succ j ih =>
    intro k n x hk hn
    obtain ⟨n, rfl⟩ : ∃ m, n = m + 1 := ⟨n - 1, by omega⟩
    have e3 : w32 ((k : Int) + 1) = ((k + 1 : Nat) : Int) := by rw [w32_eq (by omega) (by omega)]; omega
    have hm : isM (b (10 + 2 * k)) := (w.2.2.1 k (by omega)).1
    rw [xx_nextShelf_5, S.1, if_neg (by omega), aget_eq (by omega) (by omega), sb, Int.toNat_natCast, (S.2.2.2.2.1 k (by omega)).2, leastLike_eq L hm, sb, nxF]
    by_cases c1 : tau (spn r (-5) k0) (b (10 + 2 * k)) ≤ v
    · rw [if_pos c1, if_pos c1, xx_nextShelf_55, bnd_eq, e3]; exact ih _ _ _ (by omega) (by omega)
    · rw [if_neg c1, if_neg c1]
      by_cases c2 : x = -5
      · rw [if_pos c2, if_pos c2, xx_nextShelf_52, xx_nextShelf_55, bnd_eq, e3]; exact ih _ _ _ (by omega) (by omega)
      · rw [if_neg c2, if_neg c2]
        by_cases c3 : x ≤ tau (spn r (-5) k0) (b (10 + 2 * k))
        · rw [if_pos c3, if_pos c3, xx_nextShelf_55, bnd_eq, e3]; exact ih _ _ _ (by omega) (by omega)
        · rw [if_neg c3, if_neg c3, xx_nextShelf_52, xx_nextShelf_55, bnd_eq, e3]; exact ih _ _ _ (by omega) (by omega)
theorem xnext_eq {ν : Mem} {a : Nat → Int} {t v : Int} (w : Wf a t) (S : SRel a ν 10) (L : LK ν (rf a) (rn a)) : xx_nextShelf v ν = some (nx a (tau (sp a)) v) := by
  have w8 := w.2.1
  have := xnx_lp (v := v) w S L (a 8).toNat 0 FU (-5) (by omega) (by have := FU_ge; omega)
  rw [xx_nextShelf]
  exact this
theorem xshs_lp {ν : Mem} {a : Nat → Int} {t : Int} (w : Wf a t) (S : SRel a ν 10) (L : LK ν (rf a) (rn a)) (f : Nat) : ∀ (n : Nat) (x p : Int), f < n → 0 ≤ x → x + f ≤ a 8 → gtF a (tau (sp a)) p (a 8).toNat ≤ f → -1 ≤ p → xx_shelves_21 n x (nx a (tau (sp a)) p) x ν = some (x + shC a (tau (sp a)) (f + 1) (nx a (tau (sp a)) p), ν) := by
  have w8 := w.2.1
  induction f with
  | zero =>
    intro n x p hn hx hx2 hg hp
    obtain ⟨n, rfl⟩ : ∃ m, n = m + 1 := ⟨n - 1, by omega⟩
    rcases nx_b a (tau (sp a)) p with h | ⟨h, hq⟩
    · rw [xx_shelves_21, S.1, h, shC, if_pos rfl, Int.add_zero]
      by_cases d : a 8 ≤ x
      · rw [if_pos d, xx_shelves_51]
      · rw [if_neg d, if_pos (by decide), xx_shelves_51]
    · have := gtF_lt h _ hq; omega
  | succ f ih =>
    intro n x p hn hx hx2 hg hp
    obtain ⟨n, rfl⟩ : ∃ m, n = m + 1 := ⟨n - 1, by omega⟩
    by_cases c : nx a (tau (sp a)) p = -5
    · rw [xx_shelves_21, S.1, c, shC, if_pos rfl, Int.add_zero, if_neg (by omega), if_pos (by decide), xx_shelves_51]
    · obtain ⟨h, hq⟩ := (nx_b a (tau (sp a)) p).resolve_left c
      have hl := gtF_lt h _ hq
      have hs : shC a (tau (sp a)) (f + 1 + 1) (nx a (tau (sp a)) p) = 1 + shC a (tau (sp a)) (f + 1) (nx a (tau (sp a)) (nx a (tau (sp a)) p)) := by rw [shC, if_neg c]
      rw [xx_shelves_21, S.1, if_neg (by omega), if_neg (by omega), w32_eq (by omega) (by omega), bnd_eq, xnext_eq w S L, sb, bnd_eq, ih n (x + 1) (nx a (tau (sp a)) p) (by omega) (by omega) (by omega) (by omega) (by omega), hs, ← Int.add_assoc]
noncomputable def unF (a : Nat → Int) : Nat → Nat → Int
  | 0, _ => 0
  | j + 1, k => un (a (10 + 2 * k)) + unF a j (k + 1)
theorem xuj_lp {ν : Mem} {a : Nat → Int} {t : Int} (w : Wf a t) (S : SRel a ν 10) (j : Nat) : ∀ (k n : Nat) (x : Int), (k : Int) + j = a 8 → j < n → 0 ≤ x → x ≤ 16 * k → xx_unitsInJars_4 n x k ν = some (x + unF a j k) := by
  have w8 := w.2.1
  induction j with
  | zero =>
    intro k n x hk hn hx hx2
    obtain ⟨n, rfl⟩ : ∃ m, n = m + 1 := ⟨n - 1, by omega⟩
    rw [xx_unitsInJars_4, S.1, if_pos (by omega), xx_unitsInJars_36, unF, Int.add_zero]
  | succ j ih =>
    intro k n x hk hn hx hx2
    obtain ⟨n, rfl⟩ : ∃ m, n = m + 1 := ⟨n - 1, by omega⟩
    have e3 : w32 ((k : Int) + 1) = ((k + 1 : Nat) : Int) := by rw [w32_eq (by omega) (by omega)]; omega
    have hm : isM (a (10 + 2 * k)) := (w.2.2.1 k (by omega)).1
    have hu := un_b (a (10 + 2 * k))
    rw [xx_unitsInJars_4, S.1, if_neg (by omega), aget_eq (by omega) (by omega), sb, Int.toNat_natCast, (S.2.2.2.2.1 k (by omega)).2, xunits_eq hm, sb, w32_eq (by omega) (by omega), bnd_eq, bnd_eq, e3, ih (k + 1) n _ (by omega) (by omega) (by omega) (by omega), unF, Int.add_assoc]
theorem sr_8 {a : Nat → Int} {t : Int} (w : Wf a t) : ∃ k : Nat, k ≤ 8 ∧ sr a = (k : Int) := by
  have := rk_b (rf a) (-5) (rn a)
  have h34 := w.2.2.2.2.1
  refine ⟨(sr a).toNat, ?_, ?_⟩
  · unfold sr rn at *; omega
  · unfold sr rn at *; omega