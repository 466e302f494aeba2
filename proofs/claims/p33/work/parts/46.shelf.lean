/-! one shelf -/
def itN (a : Nat → Int) (T : Int → Int) : Nat → Int → Int
  | 0, x => x
  | k + 1, x => if x = -5 then -5 else itN a T k (nx a T x)
theorem itN_5 (a : Nat → Int) (T : Int → Int) (k : Nat) : itN a T k (-5) = -5 := by
  cases k with
  | zero => rfl
  | succ k => rw [itN, if_pos rfl]
theorem itN_b (a : Nat → Int) (T : Int → Int) (k : Nat) : ∀ p, itN a T k (nx a T p) = -5 ∨ ∃ q, q < (a 8).toNat ∧ T (a (10 + 2 * q)) = itN a T k (nx a T p) := by
  induction k with
  | zero => intro p; exact (nx_b a T p).imp id (fun h => h.2)
  | succ k ih =>
    intro p
    rw [itN]
    split
    · exact Or.inl rfl
    · exact ih _
theorem itN_end {a : Nat → Int} {T : Int → Int} (k : Nat) : ∀ p, gtF a T p (a 8).toNat ≤ k → itN a T k (nx a T p) = -5 := by
  induction k with
  | zero =>
    intro p h
    rcases nx_b a T p with c | ⟨c, hq⟩
    · exact c
    · have := gtF_lt c _ hq; omega
  | succ k ih =>
    intro p h
    rw [itN]
    split
    · rfl
    · rename_i c
      obtain ⟨c1, hq⟩ := (nx_b a T p).resolve_left c
      have := gtF_lt c1 _ hq
      exact ih _ (by omega)
/-- the cheapest jar of a taste -/
noncomputable def chF (a : Nat → Int) (T : Int → Int) (v : Int) : Nat → Nat → Int → Int
  | 0, _, c => c
  | j + 1, k, c => chF a T v j (k + 1) (if T (a (10 + 2 * k)) = v then (if c = -5 then (k : Int) else if prc a (mixA a c) ≤ prc a (a (10 + 2 * k)) then c else (k : Int)) else c)
theorem chF_b (a : Nat → Int) (T : Int → Int) (v : Int) (j : Nat) : ∀ (k : Nat) (c : Int), (c = -5 ∨ (0 ≤ c ∧ c < k)) → (chF a T v j k c = -5 ∨ (0 ≤ chF a T v j k c ∧ chF a T v j k c < ((k + j : Nat) : Int))) := by
  induction j with
  | zero => intro k c h; rw [chF]; exact h.imp id (fun z => ⟨z.1, by omega⟩)
  | succ j ih =>
    intro k c h
    rw [chF, show k + (j + 1) = k + 1 + j by omega]
    refine ih (k + 1) _ ?_
    split
    · split
      · right; omega
      · split
        · rcases h with h | h
          · exact Or.inl h
          · right; omega
        · right; omega
    · rcases h with h | h
      · exact Or.inl h
      · right; omega
theorem xcj_lp {ν : Mem} {b : Nat → Int} {r : Nat → Int} {k0 : Nat} {t v : Int} (w : Wf b t) (S : SRel b ν 10) (L : LK ν r k0) (j : Nat) : ∀ (k n : Nat) (c : Int), (k : Int) + j = b 8 → j < n → (c = -5 ∨ (0 ≤ c ∧ c < k)) → ∃ d, xx_cheapestJarLike_8 n v (if c = -5 then -5 else b (9 + 2 * c.toNat)) (if c = -5 then 0 else prc b (mixA b c)) k ν = some (if d = -5 then -5 else b (9 + 2 * d.toNat)) ∧ d = chF b (tau (spn r (-5) k0)) v j k c := by
  have w8 := w.2.1
  induction j with
  | zero =>
    intro k n c hk hn hc
    obtain ⟨n, rfl⟩ : ∃ m, n = m + 1 := ⟨n - 1, by omega⟩
    rw [xx_cheapestJarLike_8, S.1, if_pos (by omega), xx_cheapestJarLike_107, chF]
    exact ⟨c, rfl, rfl⟩
  | succ j ih =>
    intro k n c hk hn hc
    obtain ⟨n, rfl⟩ : ∃ m, n = m + 1 := ⟨n - 1, by omega⟩
    have e3 : w32 ((k : Int) + 1) = ((k + 1 : Nat) : Int) := by rw [w32_eq (by omega) (by omega)]; omega
    have hmn := w.2.2.1 k (by omega)
    have hm := hmn.1
    have s1 := S.2.2.2.2.1 k (by omega)
    have hmk : mixA b (k : Int) = b (10 + 2 * k) := by unfold mixA; rw [Int.toNat_natCast]
    have gk := ih (k + 1) n (k : Int) (by omega) (by omega) (Or.inr (by omega))
    rw [if_neg (show ¬ (k : Int) = -5 by omega), if_neg (show ¬ (k : Int) = -5 by omega), Int.toNat_natCast, hmk] at gk
    have gc := ih (k + 1) n c (by omega) (by omega) (hc.imp id (fun z => by omega))
    rw [xx_cheapestJarLike_8, S.1, if_neg (by omega), aget_eq (by omega) (by omega), sb, Int.toNat_natCast, s1.2, price_X w S hm, sb, chF]
    have h54 : ∀ X2 X3, xx_cheapestJarLike_54 (xx_cheapestJarLike_8 n) v X2 X3 k (prc b (b (10 + 2 * k))) ν = if tau (spn r (-5) k0) (b (10 + 2 * k)) = v then xx_cheapestJarLike_8 n v (b (9 + 2 * k)) (prc b (b (10 + 2 * k))) ((k + 1 : Nat) : Int) ν else xx_cheapestJarLike_8 n v X2 X3 ((k + 1 : Nat) : Int) ν := fun X2 X3 => by
      rw [xx_cheapestJarLike_54, xx_cheapestJarLike_59, if_neg (by decide), aget_eq (by omega) (by omega), sb, Int.toNat_natCast, s1.2, leastLike_eq L hm, sb]
      by_cases d : tau (spn r (-5) k0) (b (10 + 2 * k)) = v
      · rw [if_pos d, if_pos d, aget_eq (by omega) (by omega), sb, Int.toNat_natCast, s1.1, xx_cheapestJarLike_101, bnd_eq, e3]
      · rw [if_neg d, if_neg d, xx_cheapestJarLike_101, bnd_eq, e3]
    by_cases c5 : c = -5
    · subst c5
      rw [if_pos rfl] at gc ⊢
      rw [if_pos rfl] at gc ⊢
      rw [if_pos rfl, h54]
      by_cases d : tau (spn r (-5) k0) (b (10 + 2 * k)) = v
      · rw [if_pos d, if_pos d, if_pos rfl]; exact gk
      · rw [if_neg d, if_neg d]; exact gc
    · have hc' := hc.resolve_left c5
      have hn2 := (w.2.2.1 c.toNat (by omega)).2
      rw [if_neg c5] at gc ⊢
      rw [if_neg c5] at gc ⊢
      rw [if_neg (show ¬ b (9 + 2 * c.toNat) = -5 by omega), if_neg c5]
      by_cases d2 : prc b (mixA b c) ≤ prc b (b (10 + 2 * k))
      · rw [if_pos d2, if_pos d2, xx_cheapestJarLike_59, if_pos rfl, xx_cheapestJarLike_101, bnd_eq, e3, ite_self]
        exact gc
      · rw [if_neg d2, if_neg d2, h54]
        by_cases d : tau (spn r (-5) k0) (b (10 + 2 * k)) = v
        · rw [if_pos d, if_pos d]; exact gk
        · rw [if_neg d, if_neg d]; exact gc
