/-! shelves: in order, each with a jar, all jars together -/
theorem cnF_add (a : Nat → Int) (T : Int → Int) (v : Int) (i j : Nat) : ∀ k, cnF a T v (i + j) k = cnF a T v i k + cnF a T v j (k + i) := by
  induction i with
  | zero => intro k; rw [cnF, Nat.zero_add, Nat.add_zero]; omega
  | succ i ih =>
    intro k
    rw [show i + 1 + j = i + j + 1 by omega, cnF, cnF, ih (k + 1), show k + 1 + i = k + (i + 1) by omega]
    omega
theorem cnF_1 (a : Nat → Int) (T : Int → Int) (v : Int) (k : Nat) : cnF a T v 1 k = if T (a (10 + 2 * k)) = v then 1 else 0 := by
  rw [cnF, cnF]
  omega
theorem cnF_b (a : Nat → Int) (T : Int → Int) (v : Int) (j : Nat) : ∀ k, 0 ≤ cnF a T v j k ∧ cnF a T v j k ≤ j := by
  induction j with
  | zero => intro k; rw [cnF]; omega
  | succ j ih =>
    intro k
    have := ih (k + 1)
    rw [cnF]
    split <;> omega
theorem cnF_pos {a : Nat → Int} {T : Int → Int} {v : Int} {n q : Nat} (hq : q < n) (h : T (a (10 + 2 * q)) = v) : 0 < cnF a T v n 0 := by
  have e : n = q + (1 + (n - q - 1)) := by omega
  have b1 := cnF_b a T v q 0
  have b2 := cnF_b a T v (n - q - 1) (0 + q + 1)
  rw [e, cnF_add, cnF_add, cnF_1, if_pos (by rw [Nat.zero_add]; exact h)]
  omega
theorem nxF_min {a : Nat → Int} {T : Int → Int} {v : Int} (hv : -1 ≤ v) (j : Nat) : ∀ (k : Nat) (x : Int), (x ≠ -5 → nxF a T v j k x ≠ -5 ∧ nxF a T v j k x ≤ x) ∧ ∀ q, k ≤ q → q < k + j → v < T (a (10 + 2 * q)) → nxF a T v j k x ≠ -5 ∧ nxF a T v j k x ≤ T (a (10 + 2 * q)) := by
  induction j with
  | zero => intro k x; exact ⟨fun h => ⟨h, Int.le_refl _⟩, fun q h1 h2 => by omega⟩
  | succ j ih =>
    intro k x
    rw [nxF]
    obtain ⟨i1, i2⟩ := ih (k + 1) (if T (a (10 + 2 * k)) ≤ v then x else if x = -5 then T (a (10 + 2 * k)) else if x ≤ T (a (10 + 2 * k)) then x else T (a (10 + 2 * k)))
    generalize hy : (if T (a (10 + 2 * k)) ≤ v then x else if x = -5 then T (a (10 + 2 * k)) else if x ≤ T (a (10 + 2 * k)) then x else T (a (10 + 2 * k))) = y at i1 i2 ⊢
    have h1 : x ≠ -5 → y ≠ -5 ∧ y ≤ x := fun hx => by
      rw [← hy]
      split
      · omega
      · split <;> omega
    have h2 : v < T (a (10 + 2 * k)) → y ≠ -5 ∧ y ≤ T (a (10 + 2 * k)) := fun hk => by
      rw [← hy, if_neg (by omega)]
      split
      · omega
      · split <;> omega
    refine ⟨fun hx => ?_, fun q q1 q2 hq => ?_⟩
    · have := h1 hx
      have := i1 this.1
      omega
    · by_cases c : q = k
      · subst c
        have := h2 hq
        have := i1 this.1
        omega
      · exact i2 q (by omega) (by omega) hq
theorem nx_min {a : Nat → Int} {T : Int → Int} {v : Int} (hv : -1 ≤ v) {q : Nat} (hq : q < (a 8).toNat) (h : v < T (a (10 + 2 * q))) : nx a T v ≠ -5 ∧ nx a T v ≤ T (a (10 + 2 * q)) := (nxF_min hv (a 8).toNat 0 (-5)).2 q (by omega) (by omega) h
theorem gt_split {a : Nat → Int} {T : Int → Int} {v w : Int} (hvw : v < w) (j : Nat) (h : ∀ q, q < j → v < T (a (10 + 2 * q)) → w ≤ T (a (10 + 2 * q))) : (gtF a T v j : Int) = cnF a T w j 0 + gtF a T w j := by
  induction j with
  | zero => rw [gtF, gtF, cnF]; rfl
  | succ j ih =>
    have i := ih (fun q hq => h q (by omega))
    have hj := h j (by omega)
    rw [gtF, gtF, cnF_add, cnF_1, Nat.zero_add]
    by_cases c : v < T (a (10 + 2 * j))
    · have := hj c
      rw [if_pos c]
      by_cases d : T (a (10 + 2 * j)) = w
      · rw [if_pos d, if_neg (by omega)]; omega
      · rw [if_neg d, if_pos (by omega)]; omega
    · rw [if_neg c, if_neg (by omega), if_neg (by omega)]; omega
theorem gt_all {a : Nat → Int} {T : Int → Int} {v : Int} (j : Nat) (h : ∀ q, q < j → v < T (a (10 + 2 * q))) : gtF a T v j = j := by
  induction j with
  | zero => rfl
  | succ j ih => rw [gtF, ih (fun q hq => h q (by omega)), if_pos (h j (by omega))]
theorem gt_none {a : Nat → Int} {T : Int → Int} {v : Int} (j : Nat) (h : ∀ q, q < j → ¬ v < T (a (10 + 2 * q))) : gtF a T v j = 0 := by
  induction j with
  | zero => rfl
  | succ j ih => rw [gtF, ih (fun q hq => h q (by omega)), if_neg (h j (by omega))]
theorem shC_b (a : Nat → Int) (T : Int → Int) (f : Nat) : ∀ x, 0 ≤ shC a T f x ∧ shC a T f x ≤ f := by
  induction f with
  | zero => intro x; rw [shC]; omega
  | succ f ih => intro x; have := ih (nx a T x); rw [shC]; split <;> omega
theorem shC_it {a : Nat → Int} {T : Int → Int} (f : Nat) : ∀ x, itN a T f x = -5 → ∀ k : Nat, ((k : Int) < shC a T f x ↔ itN a T k x ≠ -5) := by
  induction f with
  | zero =>
    intro x hx k
    rw [itN] at hx
    subst hx
    rw [shC, itN_5]
    constructor
    · intro h; omega
    · intro h; exact absurd rfl h
  | succ f ih =>
    intro x hx k
    rw [itN] at hx
    rw [shC]
    by_cases c : x = -5
    · subst c
      rw [if_pos rfl, itN_5]
      constructor
      · intro h; omega
      · intro h; exact absurd rfl h
    · rw [if_neg c] at hx ⊢
      have b := shC_b a T f (nx a T x)
      cases k with
      | zero => rw [itN]; constructor <;> intro h <;> omega
      | succ k =>
        have i := ih (nx a T x) hx k
        rw [itN, if_neg c, ← i]
        omega
theorem itN_next {a : Nat → Int} {T : Int → Int} (k : Nat) : ∀ x, itN a T (k + 1) x = if itN a T k x = -5 then -5 else nx a T (itN a T k x) := by
  induction k with
  | zero => intro x; rw [itN, itN, itN]
  | succ k ih =>
    intro x
    rw [itN]
    by_cases c : x = -5
    · rw [if_pos c, c, itN_5, if_pos rfl]
    · rw [if_neg c, ih (nx a T x), show itN a T (k + 1) x = itN a T k (nx a T x) by rw [itN, if_neg c]]
theorem nsh_it (a : Nat → Int) (k : Nat) : (k : Int) < nsh a ↔ shv a k ≠ -5 :=
  shC_it ((a 8).toNat + 1) _ (itN_end _ (-1) (by have := gtF_le a (tau (sp a)) (-1) (a 8).toNat; omega)) k
theorem nsh_b (a : Nat → Int) : 0 ≤ nsh a ∧ nsh a ≤ (((a 8).toNat + 1 : Nat) : Int) := shC_b _ _ _ _
theorem fjF_at {a : Nat → Int} {T : Int → Int} {v : Int} (j : Nat) : ∀ k, fjF a T v j k ≠ -5 → T (a (10 + 2 * (fjF a T v j k).toNat)) = v ∧ ∀ q, k ≤ q → q < (fjF a T v j k).toNat → T (a (10 + 2 * q)) ≠ v := by
  induction j with
  | zero => intro k h; exact absurd rfl h
  | succ j ih =>
    intro k h
    rw [fjF] at h ⊢
    by_cases c : T (a (10 + 2 * k)) = v
    · rw [if_pos c, Int.toNat_natCast]
      exact ⟨c, fun q h1 h2 => by omega⟩
    · rw [if_neg c] at h ⊢
      obtain ⟨i1, i2⟩ := ih (k + 1) h
      refine ⟨i1, fun q h1 h2 => ?_⟩
      by_cases d : q = k
      · subst d; exact c
      · exact i2 q (by omega) h2
theorem chF_at {a : Nat → Int} {T : Int → Int} {v : Int} (j : Nat) : ∀ (k : Nat) (c : Int), (c = -5 ∨ (0 ≤ c ∧ T (mixA a c) = v)) → chF a T v j k c = -5 ∨ (T (mixA a (chF a T v j k c)) = v ∧ (c ≠ -5 → prc a (mixA a (chF a T v j k c)) ≤ prc a (mixA a c)) ∧ ∀ q, k ≤ q → q < k + j → T (a (10 + 2 * q)) = v → prc a (mixA a (chF a T v j k c)) ≤ prc a (a (10 + 2 * q))) := by
  induction j with
  | zero =>
    intro k c h
    rw [chF]
    rcases h with h | h
    · exact Or.inl h
    · exact Or.inr ⟨h.2, fun _ => Int.le_refl _, fun q h1 h2 => by omega⟩
  | succ j ih =>
    intro k c h
    rw [chF]
    generalize hd : (if T (a (10 + 2 * k)) = v then (if c = -5 then (k : Int) else if prc a (mixA a c) ≤ prc a (a (10 + 2 * k)) then c else (k : Int)) else c) = d
    have mk : mixA a (k : Int) = a (10 + 2 * k) := by unfold mixA; rw [Int.toNat_natCast]
    have hd1 : d = -5 ∨ (0 ≤ d ∧ T (mixA a d) = v) := by
      rw [← hd]
      by_cases e : T (a (10 + 2 * k)) = v
      · rw [if_pos e]
        by_cases f : c = -5
        · rw [if_pos f]; exact Or.inr ⟨by omega, by rw [mk]; exact e⟩
        · rw [if_neg f]
          split
          · exact h
          · exact Or.inr ⟨by omega, by rw [mk]; exact e⟩
      · rw [if_neg e]; exact h
    have hd2 : c ≠ -5 → d ≠ -5 ∧ prc a (mixA a d) ≤ prc a (mixA a c) := fun f => by
      rw [← hd]
      by_cases e : T (a (10 + 2 * k)) = v
      · rw [if_pos e, if_neg f]
        split
        · exact ⟨f, Int.le_refl _⟩
        · rw [mk]; exact ⟨by omega, by omega⟩
      · rw [if_neg e]; exact ⟨f, Int.le_refl _⟩
    have hd3 : T (a (10 + 2 * k)) = v → d ≠ -5 ∧ prc a (mixA a d) ≤ prc a (a (10 + 2 * k)) := fun e => by
      rw [← hd, if_pos e]
      by_cases f : c = -5
      · rw [if_pos f, mk]; exact ⟨by omega, Int.le_refl _⟩
      · rw [if_neg f]
        split
        · exact ⟨f, by assumption⟩
        · rw [mk]; exact ⟨by omega, Int.le_refl _⟩
    rcases ih (k + 1) d hd1 with i | ⟨i1, i2, i3⟩
    · exact Or.inl i
    · refine Or.inr ⟨i1, fun f => ?_, fun q h1 h2 e => ?_⟩
      · have x1 := hd2 f
        exact Int.le_trans (i2 x1.1) x1.2
      · by_cases g : q = k
        · subst g
          have x1 := hd3 e
          exact Int.le_trans (i2 x1.1) x1.2
        · exact i3 q (by omega) (by omega) e
