/-! numbers and words, read in both -/
section TXT2
variable {tx : Nat → Int} {len : Nat}
def numF (tx : Nat → Int) (len : Nat) : Nat → Nat → Int → Int × Nat
  | 0, p, x => (x, p)
  | f + 1, p, x => if 0 < x ∧ nxt tx len 48 57 p ∧ 10 * x + tx p - 48 < 200 then numF tx len f (p + 1) (10 * x + tx p - 48) else (x, p)
theorem numF_b (f : Nat) : ∀ (p : Nat) (x : Int), p + f ≤ len → 0 ≤ x → x < 200 → p ≤ (numF tx len f p x).2 ∧ (numF tx len f p x).2 ≤ len ∧ 0 ≤ (numF tx len f p x).1 ∧ (numF tx len f p x).1 < 200 := by
  induction f with
  | zero => intro p x h h0 h1; rw [numF]; exact ⟨Nat.le_refl _, h, h0, h1⟩
  | succ f ih =>
    intro p x h h0 h1
    rw [numF]
    split
    · rename_i c
      have h2 := c.2.1.2
      have := ih (p + 1) (10 * x + tx p - 48) (by omega) (by omega) (by omega)
      omega
    · exact ⟨Nat.le_refl _, by show p ≤ len; omega, h0, h1⟩
theorem mnum_lp (j : Nat) : ∀ (p n : Nat) (x : Int) (μ : Mem), p + j = len → j < n → 0 ≤ x → x < 200 → RT tx len μ → RS2 μ true p → ∃ μ', mm_number_12 n x μ = some ((numF tx len j p x).1, μ') ∧ RS2 μ' true (numF tx len j p x).2 ∧ PF μ μ' ∧ (∀ q, q ≠ 14 → q ≠ 15 → μ' 0 q = μ 0 q) := by
  induction j with
  | zero =>
    intro p n x μ hp hn h0 h1 T R
    obtain ⟨n, rfl⟩ : ∃ m, n = m + 1 := ⟨n - 1, by omega⟩
    rw [mm_number_12, numF]
    refine ⟨μ, ?_, R, PF_rf μ, fun _ _ _ => rfl⟩
    by_cases c : x ≤ 0
    · rw [if_pos c, mm_number_81]
    · rw [if_neg c, isNext_n T R (fun z => by have := z.2.1; omega), sb, if_pos rfl, mm_number_81]
  | succ j ih =>
    intro p n x μ hp hn h0 h1 T R
    obtain ⟨n, rfl⟩ : ∃ m, n = m + 1 := ⟨n - 1, by omega⟩
    have hl := T.2.1
    rw [mm_number_12, numF]
    by_cases c : x ≤ 0
    · rw [if_pos c, mm_number_81, if_neg (fun z => by omega)]
      exact ⟨μ, rfl, R, PF_rf μ, fun _ _ _ => rfl⟩
    · rw [if_neg c]
      by_cases d : nxt tx len 48 57 p
      · have d2 := d.2
        have hx : w32 (w32 (w32 (10 * x) + tx p) - 48) = 10 * x + tx p - 48 := by rw [w32_eq (x := 10 * x) (by omega) (by omega), w32_eq (x := 10 * x + tx p) (by omega) (by omega), w32_eq (by omega) (by omega)]
        rw [isNext_y T R d, sb, if_neg (by decide), R.1, aget_eq (by omega) (by omega), sb, Int.toNat_natCast, (T.2.2 p d.1).1, hx]
        by_cases e : 200 ≤ 10 * x + tx p - 48
        · rw [if_pos e, mm_number_81, if_neg (fun z => by omega)]
          exact ⟨μ, rfl, R, PF_rf μ, fun _ _ _ => rfl⟩
        · rw [if_neg e, sb, hx, bnd_eq, w32_eq (by omega) (by omega), bnd_eq, if_pos ⟨by omega, d, by omega⟩]
          have R' : RS2 (mst μ 0 14 ((p : Int) + 1)) true (p + 1) := ⟨by rw [mst_same]; omega, by rw [mst_ix (by decide)]; exact R.2⟩
          have f' : PF μ (mst μ 0 14 ((p : Int) + 1)) := PF_14 (PF_rf μ) _
          obtain ⟨μ', e1, e2, e3, e4⟩ := ih (p + 1) n (10 * x + tx p - 48) _ (by omega) (by omega) (by omega) (by omega) (RT_fr T f') R'
          exact ⟨μ', e1, e2, PF_tr f' e3, fun q a b => by rw [e4 q a b, mst_ix a]⟩
      · rw [isNext_n T R (fun z => d z.2), sb, if_pos rfl, mm_number_81, if_neg (fun z => d z.2.1)]
        exact ⟨μ, rfl, R, PF_rf μ, fun _ _ _ => rfl⟩
theorem mnumber_y {μ : Mem} {p : Nat} (T : RT tx len μ) (R : RS2 μ true p) (h : nxt tx len 48 57 p) : ∃ μ', mm_number μ = some ((numF tx len (len - (p + 1)) (p + 1) (tx p - 48)).1, μ') ∧ RS2 μ' true (numF tx len (len - (p + 1)) (p + 1) (tx p - 48)).2 ∧ PF μ μ' ∧ (∀ q, q ≠ 14 → q ≠ 15 → μ' 0 q = μ 0 q) := by
  have h1 := h.1
  have h2 := h.2
  have hl := T.2.1
  obtain ⟨μ1, e1, R1, f1, g1⟩ := sign_y T R h
  obtain ⟨μ2, e2, R2, f2, g2⟩ := mnum_lp (len - (p + 1)) (p + 1) FU (tx p - 48) μ1 (by omega) (by have := FU_ge; omega) (by omega) (by omega) (RT_fr T f1) R1
  exact ⟨μ2, by rw [mm_number, e1, sb, w32_eq (by omega) (by omega), bnd_eq, e2], R2, PF_tr f1 f2, fun q a b => by rw [g2 q a b, g1 q a b]⟩
theorem mnumber_n {μ : Mem} {p : Nat} {ok : Bool} (T : RT tx len μ) (R : RS2 μ ok p) (hp : p ≤ len) (h : ¬ (ok = true ∧ nxt tx len 48 57 p)) : ∃ v μ', mm_number μ = some (v, μ') ∧ RS2 μ' false p ∧ PF μ μ' ∧ (∀ q, q ≠ 14 → q ≠ 15 → μ' 0 q = μ 0 q) := by
  obtain ⟨v, μ1, e1, R1, f1, g1, v0, v1⟩ := sign_n T R hp h
  obtain ⟨n, hn⟩ : ∃ m, FU = m + 1 := ⟨FU - 1, by have := FU_ge; omega⟩
  refine ⟨v - 48, μ1, ?_, R1, f1, g1⟩
  rw [mm_number, e1, sb, w32_eq (by omega) (by omega), bnd_eq, hn, mm_number_12]
  by_cases c : v - 48 ≤ 0
  · rw [if_pos c, mm_number_81]
  · rw [if_neg c, isNext_n (RT_fr T f1) R1 (fun z => by cases z.1), sb, if_pos rfl, mm_number_81]
theorem xnum_lp (j : Nat) : ∀ (p n : Nat) (x x2 : Int) (ν : Mem), p + j = len → j < n → 0 ≤ x → x < 200 → 0 ≤ x2 → x2 + j ≤ 60 → XT tx len ν → ν 63 2 = (p : Int) → ∃ ν', xw_readJarNumber_24 n x x2 ν = some ((numF tx len j p x).1, ν') ∧ ν' 63 2 = (((numF tx len j p x).2 : Nat) : Int) ∧ (∀ a b, (a ≠ 63 ∨ b ≠ 2) → ν' a b = ν a b) := by
  induction j with
  | zero =>
    intro p n x x2 ν hp hn h0 h1 hx0 hx2 T R
    obtain ⟨n, rfl⟩ : ∃ m, n = m + 1 := ⟨n - 1, by omega⟩
    rw [xw_readJarNumber_24, numF]
    refine ⟨ν, ?_, R, fun _ _ _ => rfl⟩
    by_cases e : 60 ≤ x2
    · rw [if_pos e, xw_readJarNumber_80]
    · rw [if_neg e]
      by_cases c : x ≤ 0
      · rw [if_pos c, xw_readJarNumber_80]
      · rw [if_neg c, digit_n T R (fun z => by have := z.1; omega), sb, if_pos (by decide), xw_readJarNumber_55]
  | succ j ih =>
    intro p n x x2 ν hp hn h0 h1 hx0 hx2 T R
    obtain ⟨n, rfl⟩ : ∃ m, n = m + 1 := ⟨n - 1, by omega⟩
    have hl := T.2.1
    rw [xw_readJarNumber_24, numF, if_neg (by omega)]
    by_cases c : x ≤ 0
    · rw [if_pos c, xw_readJarNumber_80, if_neg (fun z => by omega)]
      exact ⟨ν, rfl, R, fun _ _ _ => rfl⟩
    · rw [if_neg c]
      by_cases d : nxt tx len 48 57 p
      · have d2 := d.2
        have hx : w32 (w32 (x * 10) + (tx p - 48)) = 10 * x + tx p - 48 := by rw [w32_eq (x := x * 10) (by omega) (by omega), w32_eq (by omega) (by omega)]; omega
        rw [digit_y T R d, sb, if_neg (by omega), hx]
        by_cases e : 10 * x + tx p - 48 < 200
        · rw [if_pos e, bnd_eq, R, w32_eq (x := (p : Int) + 1) (by omega) (by omega), bnd_eq, w32_eq (by omega) (by omega), bnd_eq, if_pos ⟨by omega, d, e⟩]
          have f' : XP ν (mst ν 63 2 ((p : Int) + 1)) := XP_2 (XP_rf ν) _
          obtain ⟨ν', e1, e2, e3⟩ := ih (p + 1) n (10 * x + tx p - 48) (x2 + 1) (mst ν 63 2 ((p : Int) + 1)) (by omega) (by omega) (by omega) (by omega) (by omega) (by omega) (XT_fr T f') (by rw [mst_same]; omega)
          exact ⟨ν', e1, e2, fun a b z => by
            rw [e3 a b z]
            by_cases y : a = 63
            · subst y; exact mst_ix (by omega)
            · exact mst_pl y⟩
        · rw [if_neg e, xw_readJarNumber_55, if_neg (fun z => by omega)]
          exact ⟨ν, rfl, R, fun _ _ _ => rfl⟩
      · rw [digit_n T R d, sb, if_pos (by decide), xw_readJarNumber_55, if_neg (fun z => d z.2.1)]
        exact ⟨ν, rfl, R, fun _ _ _ => rfl⟩
theorem xnumber_y {ν : Mem} {p : Nat} (T : XT tx len ν) (R : ν 63 2 = (p : Int)) (h : nxt tx len 48 57 p) : ∃ ν', xw_readJarNumber ν = some ((numF tx len (len - (p + 1)) (p + 1) (tx p - 48)).1, ν') ∧ ν' 63 2 = (((numF tx len (len - (p + 1)) (p + 1) (tx p - 48)).2 : Nat) : Int) ∧ (∀ a b, (a ≠ 63 ∨ b ≠ 2) → ν' a b = ν a b) := by
  have h1 := h.1
  have h2 := h.2
  have hl := T.2.1
  have f' : XP ν (mst ν 63 2 ((p : Int) + 1)) := XP_2 (XP_rf ν) _
  obtain ⟨ν', e1, e2, e3⟩ := xnum_lp (len - (p + 1)) (p + 1) FU (tx p - 48) 0 (mst ν 63 2 ((p : Int) + 1)) (by omega) (by have := FU_ge; omega) (by omega) (by omega) (by omega) (by omega) (XT_fr T f') (by rw [mst_same]; omega)
  refine ⟨ν', ?_, e2, fun a b z => ?_⟩
  · rw [xw_readJarNumber, digit_y T R h, sb, if_pos (by omega), R, w32_eq (by omega) (by omega), bnd_eq, e1]
  · rw [e3 a b z]
    by_cases y : a = 63
    · subst y; exact mst_ix (by omega)
    · exact mst_pl y
theorem xnumber_n {ν : Mem} {p : Nat} (T : XT tx len ν) (R : ν 63 2 = (p : Int)) (h : ¬ nxt tx len 48 57 p) : xw_readJarNumber ν = some (-5, ν) := by
  rw [xw_readJarNumber, digit_n T R h, sb, if_neg (by decide)]
/-! words -/
def sgP (tx : Nat → Int) (len : Nat) (lo hi : Int) (s : Bool × Nat) : Bool × Nat := if s.1 = true ∧ nxt tx len lo hi s.2 then (true, s.2 + 1) else (false, s.2)
theorem sgP_le {lo hi : Int} {s : Bool × Nat} (h : s.2 ≤ len) : (sgP tx len lo hi s).2 ≤ len := by
  unfold sgP
  split
  · rename_i c; have := c.2.1; show s.2 + 1 ≤ len; omega
  · exact h
theorem sign_g {μ : Mem} {lo hi : Int} {s : Bool × Nat} (T : RT tx len μ) (R : RS2 μ s.1 s.2) (hp : s.2 ≤ len) : ∃ v μ', mm_sign lo hi μ = some (v, μ') ∧ RS2 μ' (sgP tx len lo hi s).1 (sgP tx len lo hi s).2 ∧ PF μ μ' ∧ (∀ q, q ≠ 14 → q ≠ 15 → μ' 0 q = μ 0 q) := by
  unfold sgP
  by_cases c : s.1 = true ∧ nxt tx len lo hi s.2
  · rw [if_pos c]
    obtain ⟨μ', e, R', f, g⟩ := sign_y T (by rw [← c.1]; exact R) c.2
    exact ⟨_, μ', e, R', f, g⟩
  · rw [if_neg c]
    obtain ⟨v, μ', e, R', f, g, _, _⟩ := sign_n T R hp c
    exact ⟨v, μ', e, R', f, g⟩
/-- the signs of a word one after another, up to the equals sign -/
def wdP (tx : Nat → Int) (len : Nat) : List Int → Bool × Nat → Bool × Nat
  | [], s => s
  | c :: cs, s => wdP tx len cs (sgP tx len c c s)
theorem wdP_f (cs : List Int) (p : Nat) : wdP tx len cs (false, p) = (false, p) := by
  induction cs with
  | nil => rfl
  | cons c cs ih =>
    rw [wdP, sgP, if_neg (fun z => by cases z.1)]
    exact ih
theorem wdP_le (cs : List Int) : ∀ s : Bool × Nat, s.2 ≤ len → (wdP tx len cs s).2 ≤ len := by
  induction cs with
  | nil => intro s h; exact h
  | cons c cs ih => intro s h; exact ih _ (sgP_le h)
theorem wdP_app (as bs : List Int) : ∀ s, wdP tx len (as ++ bs) s = wdP tx len bs (wdP tx len as s) := by
  induction as with
  | nil => intro s; rfl
  | cons c cs ih => intro s; exact ih _
theorem signs_g {μ : Mem} {a1 a2 a3 a4 : Int} {s : Bool × Nat} (T : RT tx len μ) (R : RS2 μ s.1 s.2) (hp : s.2 ≤ len) : ∃ μ', mm_signs a1 a2 a3 a4 μ = some μ' ∧ RS2 μ' (wdP tx len ([a1, a2] ++ ((if a3 = 0 then [] else [a3]) ++ ((if a4 = 0 then [] else [a4]) ++ [61]))) s).1 (wdP tx len ([a1, a2] ++ ((if a3 = 0 then [] else [a3]) ++ ((if a4 = 0 then [] else [a4]) ++ [61]))) s).2 ∧ PF μ μ' ∧ (∀ q, q ≠ 14 → q ≠ 15 → μ' 0 q = μ 0 q) := by
  obtain ⟨v1, μ1, e1, R1, f1, g1⟩ := sign_g (lo := a1) (hi := a1) T R hp
  have l1 := sgP_le (tx := tx) (len := len) (lo := a1) (hi := a1) hp
  obtain ⟨v2, μ2, e2, R2, f2, g2⟩ := sign_g (lo := a2) (hi := a2) (RT_fr T f1) R1 l1
  have l2 := sgP_le (tx := tx) (len := len) (lo := a2) (hi := a2) l1
  have F2 := PF_tr f1 f2
  rw [mm_signs, e1, sb, bnd_eq, e2, sb, bnd_eq]
  simp only [wdP_app, wdP]
  have h49 : ∀ (z : Int) (ρ : Mem) (r : Bool × Nat), RT tx len ρ → RS2 ρ r.1 r.2 → r.2 ≤ len → PF μ ρ → (∀ q, q ≠ 14 → q ≠ 15 → ρ 0 q = μ 0 q) → ∃ μ', mm_signs_49 z ρ = some μ' ∧ RS2 μ' (sgP tx len 61 61 r).1 (sgP tx len 61 61 r).2 ∧ PF μ μ' ∧ (∀ q, q ≠ 14 → q ≠ 15 → μ' 0 q = μ 0 q) := fun z ρ r T3 R3 l3 F3 G3 => by
    obtain ⟨v, μ', e, R', f, g⟩ := sign_g (lo := 61) (hi := 61) T3 R3 l3
    exact ⟨μ', by rw [mm_signs_49, e, sb, bnd_eq], R', PF_tr F3 f, fun q a b => by rw [g q a b, G3 q a b]⟩
  have h30 : ∀ (z : Int) (ρ : Mem) (r : Bool × Nat), RT tx len ρ → RS2 ρ r.1 r.2 → r.2 ≤ len → PF μ ρ → (∀ q, q ≠ 14 → q ≠ 15 → ρ 0 q = μ 0 q) → ∃ μ', mm_signs_30 a4 z ρ = some μ' ∧ RS2 μ' (sgP tx len 61 61 (wdP tx len (if a4 = 0 then [] else [a4]) r)).1 (sgP tx len 61 61 (wdP tx len (if a4 = 0 then [] else [a4]) r)).2 ∧ PF μ μ' ∧ (∀ q, q ≠ 14 → q ≠ 15 → μ' 0 q = μ 0 q) := fun z ρ r T3 R3 l3 F3 G3 => by
    rw [mm_signs_30]
    by_cases c : a4 = 0
    · rw [if_pos c, if_pos c]; exact h49 0 ρ r T3 R3 l3 F3 G3
    · rw [if_neg c, if_neg c]
      obtain ⟨v, μ', e, R', f, g⟩ := sign_g (lo := a4) (hi := a4) T3 R3 l3
      rw [e, sb]
      exact h49 v μ' _ (RT_fr T3 f) R' (sgP_le l3) (PF_tr F3 f) (fun q a b => by rw [g q a b, G3 q a b])
  by_cases c : a3 = 0
  · rw [if_pos c, if_pos c]
    exact h30 0 μ2 _ (RT_fr T F2) R2 l2 F2 (fun q a b => by rw [g2 q a b, g1 q a b])
  · rw [if_neg c, if_neg c]
    obtain ⟨v3, μ3, e3, R3, f3, g3⟩ := sign_g (lo := a3) (hi := a3) (RT_fr T F2) R2 l2
    rw [e3, sb]
    exact h30 v3 μ3 _ (RT_fr T (PF_tr F2 f3)) R3 (sgP_le l2) (PF_tr F2 f3) (fun q a b => by rw [g3 q a b, g2 q a b, g1 q a b])
end TXT2
