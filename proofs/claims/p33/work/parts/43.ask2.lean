/-! questions: jars of a taste, mixes, lists, needless rules -/
def cnF (a : Nat → Int) (T : Int → Int) (v : Int) : Nat → Nat → Int
  | 0, _ => 0
  | j + 1, k => (if T (a (10 + 2 * k)) = v then 1 else 0) + cnF a T v j (k + 1)
theorem xjl_lp {ν : Mem} {b : Nat → Int} {r : Nat → Int} {k0 : Nat} {t v : Int} (w : Wf b t) (S : SRel b ν 10) (L : LK ν r k0) (j : Nat) : ∀ (k n : Nat) (x : Int), (k : Int) + j = b 8 → j < n → 0 ≤ x → x ≤ k → xx_jarsLike_4 n v x k ν = some (x + cnF b (tau (spn r (-5) k0)) v j k) := by
  have w8 := w.2.1
  induction j with
  | zero =>
    intro k n x hk hn hx hx2
    obtain ⟨n, rfl⟩ : ∃ m, n = m + 1 := ⟨n - 1, by omega⟩
    rw [xx_jarsLike_4, S.1, if_pos (by omega), xx_jarsLike_44, cnF, Int.add_zero]
  | succ j ih =>
    intro k n x hk hn hx hx2
    obtain ⟨n, rfl⟩ : ∃ m, n = m + 1 := ⟨n - 1, by omega⟩
    have e3 : w32 ((k : Int) + 1) = ((k + 1 : Nat) : Int) := by rw [w32_eq (by omega) (by omega)]; omega
    have hm : isM (b (10 + 2 * k)) := (w.2.2.1 k (by omega)).1
    rw [xx_jarsLike_4, S.1, if_neg (by omega), aget_eq (by omega) (by omega), sb, Int.toNat_natCast, (S.2.2.2.2.1 k (by omega)).2, leastLike_eq L hm, sb, cnF]
    by_cases c : tau (spn r (-5) k0) (b (10 + 2 * k)) = v
    · rw [if_pos c, if_pos c, w32_eq (by omega) (by omega), bnd_eq, xx_jarsLike_38, bnd_eq, e3, ih (k + 1) n (x + 1) (by omega) (by omega) (by omega) (by omega), Int.add_assoc]
    · rw [if_neg c, if_neg c, xx_jarsLike_38, bnd_eq, e3, ih (k + 1) n x (by omega) (by omega) (by omega) (by omega), Int.zero_add]