/-! one shelf, in both -/
theorem fjF_ne {a : Nat → Int} {T : Int → Int} {v : Int} (j : Nat) : ∀ k, (∃ q, k ≤ q ∧ q < k + j ∧ T (a (10 + 2 * q)) = v) → fjF a T v j k ≠ -5 := by
  induction j with
  | zero => intro k ⟨q, h1, h2, _⟩; omega
  | succ j ih =>
    intro k ⟨q, h1, h2, h3⟩
    rw [fjF]
    by_cases c : T (a (10 + 2 * k)) = v
    · rw [if_pos c]; omega
    · rw [if_neg c]
      refine ih (k + 1) ⟨q, ?_, by omega, h3⟩
      by_cases z : q = k
      · subst z; exact absurd h3 c
      · omega
theorem chF_ne {a : Nat → Int} {T : Int → Int} {v : Int} (j : Nat) : ∀ (k : Nat) (c : Int), (c ≠ -5 ∨ ∃ q, k ≤ q ∧ q < k + j ∧ T (a (10 + 2 * q)) = v) → chF a T v j k c ≠ -5 := by
  induction j with
  | zero =>
    intro k c h
    rw [chF]
    rcases h with h | ⟨q, h1, h2, _⟩
    · exact h
    · omega
  | succ j ih =>
    intro k c h
    rw [chF]
    refine ih (k + 1) _ ?_
    by_cases z : T (a (10 + 2 * k)) = v
    · rw [if_pos z]
      left
      by_cases c5 : c = -5
      · rw [if_pos c5]; omega
      · rw [if_neg c5]
        split
        · exact c5
        · omega
    · rw [if_neg z]
      rcases h with h | ⟨q, h1, h2, h3⟩
      · exact Or.inl h
      · right
        refine ⟨q, ?_, by omega, h3⟩
        by_cases w : q = k
        · subst w; exact absurd h3 z
        · omega
theorem xts_lp {ν : Mem} {a : Nat → Int} {t x1 : Int} (w : Wf a t) (S : SRel a ν 10) (L : LK ν (rf a) (rn a)) (f : Nat) : ∀ (n : Nat) (x4 p : Int), f < n → 0 ≤ x4 → x4 + f ≤ 1000 → gtF a (tau (sp a)) p (a 8).toNat ≤ f → -1 ≤ p → xx_tasteOfShelf_22 n x1 (nx a (tau (sp a)) p) x4 ν = some (itN a (tau (sp a)) (x1 - x4).toNat (nx a (tau (sp a)) p)) := by
  induction f with
  | zero =>
    intro n x4 p hn hx hx2 hg hp
    obtain ⟨n, rfl⟩ : ∃ m, n = m + 1 := ⟨n - 1, by omega⟩
    have h : nx a (tau (sp a)) p = -5 := by
      rcases nx_b a (tau (sp a)) p with h | ⟨h, hq⟩
      · exact h
      · have := gtF_lt h _ hq; omega
    rw [h, itN_5, xx_tasteOfShelf_22, xx_tasteOfShelf_43]
    split
    · rfl
    · rw [if_pos (by decide)]
  | succ f ih =>
    intro n x4 p hn hx hx2 hg hp
    obtain ⟨n, rfl⟩ : ∃ m, n = m + 1 := ⟨n - 1, by omega⟩
    by_cases c : nx a (tau (sp a)) p = -5
    · rw [c, itN_5, xx_tasteOfShelf_22, xx_tasteOfShelf_43]
      split
      · rfl
      · rw [if_pos (by decide)]
    · by_cases d : x1 ≤ x4
      · rw [xx_tasteOfShelf_22, if_pos d, xx_tasteOfShelf_43, show (x1 - x4).toNat = 0 by omega, itN]
      · obtain ⟨h, hq⟩ := (nx_b a (tau (sp a)) p).resolve_left c
        have hl := gtF_lt h _ hq
        rw [xx_tasteOfShelf_22, if_neg d, if_neg (by omega), xnext_eq w S L, sb, w32_eq (by omega) (by omega), bnd_eq, ih n (x4 + 1) (nx a (tau (sp a)) p) (by omega) (by omega) (by omega) (by omega) (by omega), show (x1 - x4).toNat = (x1 - (x4 + 1)).toNat + 1 by omega, itN, if_neg c]
theorem xtos_eq {ν : Mem} {a : Nat → Int} {t x1 : Int} (w : Wf a t) (S : SRel a ν 10) (L : LK ν (rf a) (rn a)) (h1 : 0 ≤ x1) : xx_tasteOfShelf x1 ν = some (itN a (tau (sp a)) x1.toNat (nx a (tau (sp a)) (-1))) := by
  have w8 := w.2.1
  have hg := gtF_le a (tau (sp a)) (-1) (a 8).toNat
  rw [xx_tasteOfShelf, S.1]
  by_cases c : x1 < a 8
  · have := xts_lp (x1 := x1) w S L (a 8).toNat FU 0 (-1) (by have := FU_ge; omega) (by omega) (by omega) hg (by omega)
    rw [Int.sub_zero] at this
    rw [if_pos c, xnext_eq w S L, sb, this]
  · rw [if_neg c, itN_end x1.toNat (-1) (by omega)]