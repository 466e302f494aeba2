/-! an order, read by the reference -/
section TXT6
variable {tx : Nat → Int} {len : Nat}
def wS (tx : Nat → Int) (len p : Nat) : Bool × Nat := wdP tx len (chs (Wd tx len p) ++ [61]) (true, p)
/-- a number at a place: whether, where it ends, what it is -/
def nP (tx : Nat → Int) (len q : Nat) : Bool × Nat := if nxt tx len 48 57 q then (true, (numF tx len (len - (q + 1)) (q + 1) (tx q - 48)).2) else (false, q)
def nV (tx : Nat → Int) (len q : Nat) : Int := (numF tx len (len - (q + 1)) (q + 1) (tx q - 48)).1
def mP (tx : Nat → Int) (len q : Nat) : Bool × Nat := if nxt tx len 97 104 q then (true, (mxF tx len (len - q) q noA).1) else (false, q)
def mV (tx : Nat → Int) (len q : Nat) : Nat → Int := (mxF tx len (len - q) q noA).2
/-- where an order ends, or where its fault is -/
def oP (tx : Nat → Int) (len p : Nat) : Bool × Nat := if (wS tx len p).1 = true then (if Wd tx len p ≤ 2 then mP tx len (wS tx len p).2 else if Wd tx len p = 3 then sgP tx len 48 57 (true, (wS tx len p).2) else if Wd tx len p = 4 then (if (nP tx len (wS tx len p).2).1 = true then (if nxt tx len 62 62 (nP tx len (wS tx len p).2).2 then nP tx len ((nP tx len (wS tx len p).2).2 + 1) else (false, (nP tx len (wS tx len p).2).2)) else (false, (nP tx len (wS tx len p).2).2)) else nP tx len (wS tx len p).2) else (false, (wS tx len p).2)
theorem mix_g {a : Nat → Int} {μ : Mem} {ok : Bool} {q : Nat} (hp : okP a) (T : RT tx len μ) (R : RS2 μ ok q) (hq : q ≤ len) (ha : ∀ j, j < 8 → μ 1 j = a j) : ∃ v μ', mm_mix μ = some (v, μ') ∧ PF μ μ' ∧ (ok = true → RS2 μ' (mP tx len q).1 (mP tx len q).2) ∧ (ok = false → RS2 μ' false q) ∧ (ok = true → (mP tx len q).1 = true → v = mS (mV tx len q) 8 ∧ GA a (mV tx len q) μ') := by
  unfold mP mV
  by_cases c : ok = true ∧ nxt tx len 97 104 q
  · obtain ⟨c1, c2⟩ := c
    subst c1
    obtain ⟨μ', e, R', G, f⟩ := mmix_y hp T R ha c2
    rw [if_pos c2]
    exact ⟨_, μ', e, f, fun _ => R', fun z => Bool.noConfusion z, fun _ _ => ⟨rfl, G⟩⟩
  · obtain ⟨v, μ', e, R', f⟩ := mmix_n T R hq c
    refine ⟨v, μ', e, f, fun z => ?_, fun _ => R', fun z y => ?_⟩
    · rw [if_neg (fun w => c ⟨z, w⟩)]; exact R'
    · rw [if_neg (fun w => c ⟨z, w⟩)] at y; exact Bool.noConfusion y
theorem num_g {μ : Mem} {ok : Bool} {q : Nat} (T : RT tx len μ) (R : RS2 μ ok q) (hq : q ≤ len) : ∃ v μ', mm_number μ = some (v, μ') ∧ PF μ μ' ∧ (ok = true → RS2 μ' (nP tx len q).1 (nP tx len q).2) ∧ (ok = false → RS2 μ' false q) ∧ (ok = true → (nP tx len q).1 = true → v = nV tx len q) := by
  unfold nP nV
  by_cases c : ok = true ∧ nxt tx len 48 57 q
  · obtain ⟨c1, c2⟩ := c
    subst c1
    obtain ⟨μ', e, R', f, g⟩ := mnumber_y T R c2
    rw [if_pos c2]
    exact ⟨_, μ', e, f, fun _ => R', fun z => Bool.noConfusion z, fun _ _ => rfl⟩
  · obtain ⟨v, μ', e, R', f, g⟩ := mnumber_n T R hq c
    refine ⟨v, μ', e, f, fun z => ?_, fun _ => R', fun z y => ?_⟩
    · rw [if_neg (fun w => c ⟨z, w⟩)]; exact R'
    · rw [if_neg (fun w => c ⟨z, w⟩)] at y; exact Bool.noConfusion y
theorem nP_le {q : Nat} (h : q ≤ len) : q ≤ (nP tx len q).2 ∧ (nP tx len q).2 ≤ len := by
  unfold nP
  split
  · rename_i c
    have c1 := c.1
    have c2 := c.2
    have := numF_b (tx := tx) (len := len) (len - (q + 1)) (q + 1) (tx q - 48) (by omega) (by omega) (by omega)
    exact ⟨by omega, this.2.1⟩
  · exact ⟨Nat.le_refl _, h⟩
/-- the word of an order, in the reference -/
theorem mword {μ : Mem} {p : Nat} (T : RT tx len μ) (R : RS2 μ true p) (hp : p ≤ len) {c a1 a2 a3 a4 : Int} (hc : nxt tx len c c p) : ∃ μ', mm_signs a1 a2 a3 a4 (mst μ 0 14 (w32 (μ 0 14 + 1))) = some μ' ∧ RS2 μ' (wdP tx len (c :: ([a1, a2] ++ ((if a3 = 0 then [] else [a3]) ++ ((if a4 = 0 then [] else [a4]) ++ [61])))) (true, p)).1 (wdP tx len (c :: ([a1, a2] ++ ((if a3 = 0 then [] else [a3]) ++ ((if a4 = 0 then [] else [a4]) ++ [61])))) (true, p)).2 ∧ PF μ μ' := by
  have hl := T.2.1
  have h1 := hc.1
  have hsg : sgP tx len c c (true, p) = (true, p + 1) := by rw [sgP, if_pos ⟨rfl, hc⟩]
  rw [R.1, w32_eq (by omega) (by omega), wdP, hsg]
  have f1 : PF μ (mst μ 0 14 ((p : Int) + 1)) := PF_14 (PF_rf μ) _
  obtain ⟨μ', e, R', f, g⟩ := signs_g (a1 := a1) (a2 := a2) (a3 := a3) (a4 := a4) (s := (true, p + 1)) (RT_fr T f1) ⟨by rw [mst_same]; show (p : Int) + 1 = ((p + 1 : Nat) : Int); omega, by rw [mst_ix (by decide)]; exact R.2⟩ (by show p + 1 ≤ len; omega)
  exact ⟨μ', e, R', PF_tr f1 f⟩
end TXT6
