/-! the fault of a text, in both -/
section TXT11
variable {tx : Nat → Int} {len : Nat}
theorem go_end {n : Nat} {x1 x2 : Int} {μ : Mem} : mm_go_65 (mm_go_14 (n + 1)) x1 x2 μ = some (x2, μ) := by
  rw [mm_go_65, mm_go_66, if_pos rfl, mm_go_94, mm_go_14, if_pos rfl, mm_go_97]
theorem mgo0_lp (f : Nat) : ∀ (p n : Nat) (x2 : Int) (μ : Mem), p ≤ len → len < p + f → f < n → 0 ≤ x2 → x2 + f ≤ 1000 → okP (μ 1) → RT tx len μ → RS2 μ true p → ∃ v μ', mm_go_14 n 0 x2 1 μ = some (v, μ') ∧ RS2 μ' (gP tx len f p).1 (gP tx len f p).2 ∧ PF μ μ' := by
  induction f with
  | zero => intro p n x2 μ hp hf; omega
  | succ f ih =>
    intro p n x2 μ hp hf hn h0 hx okp T R
    obtain ⟨n, rfl⟩ : ∃ m, n = m + 2 := ⟨n - 2, by omega⟩
    obtain ⟨μ1, f1, R1, e1, _⟩ := mord_eq (a := μ 1) okp T R hp (fun _ _ => rfl)
    obtain ⟨b1, b2, b3⟩ := oP_b (tx := tx) hp
    have T1 := RT_fr T f1
    rw [mm_go_14, if_neg (show ¬ (1 : Int) = 0 by decide), e1, sb, bnd_eq, if_pos (show (0 : Int) ≤ 0 by decide), mm_go_40, w32_eq (by omega) (by omega), bnd_eq, gP]
    cases ho : (oP tx len p).1 with
    | false =>
      rw [ho] at R1
      have r2 : μ1 0 15 = 1 := R1.2
      rw [if_neg (show ¬ (false = true) by decide), if_neg (show ¬ μ1 0 15 = 0 by omega), go_end]
      exact ⟨_, μ1, rfl, R1, f1⟩
    | true =>
      rw [ho] at R1
      have b4 := b3 ho
      have r2 : μ1 0 15 = 0 := R1.2
      have t1 := T1.1
      have r1 : μ1 0 14 = (((oP tx len p).2 : Nat) : Int) := R1.1
      rw [if_pos rfl, if_pos r2]
      by_cases c : len ≤ (oP tx len p).2
      · rw [if_pos (show μ1 0 7 ≤ μ1 0 14 by omega), if_pos c, go_end]
        exact ⟨_, μ1, rfl, R1, f1⟩
      · rw [if_neg (show ¬ μ1 0 7 ≤ μ1 0 14 by omega), if_neg c, mm_go_66, if_neg (show ¬ (1 : Int) = 0 by decide)]
        by_cases d : nxt tx len 59 59 (oP tx len p).2
        · obtain ⟨μ2, e2, R2, f2, g2⟩ := sign_y T1 R1 d
          have r3 : μ2 0 15 = 0 := R2.2
          have k1 : μ2 1 = μ 1 := by funext q; rw [f2 1 q (Or.inl (by decide)), f1 1 q (Or.inl (by decide))]
          obtain ⟨v, μ', e3, R3, f3⟩ := ih ((oP tx len p).2 + 1) (n + 1) (x2 + 1) μ2 (by omega) (by omega) (by omega) (by omega) (by omega) (by rw [k1]; exact okp) (RT_fr T1 f2) R2
          rw [if_pos d, e2, sb, bnd_eq, if_pos r3, mm_go_93, mm_go_94, e3]
          exact ⟨v, μ', rfl, R3, PF_tr f1 (PF_tr f2 f3)⟩
        · obtain ⟨v, μ2, e2, R2, f2, g2, _, _⟩ := sign_n T1 R1 b2 (fun z => d z.2)
          have r3 : μ2 0 15 = 1 := R2.2
          rw [if_neg d, e2, sb, bnd_eq, if_neg (show ¬ μ2 0 15 = 0 by omega), mm_go_93, mm_go_94, mm_go_14, if_pos rfl, mm_go_97]
          exact ⟨_, μ2, rfl, R2, PF_tr f1 f2⟩
theorem xff_lp (f : Nat) : ∀ (p n : Nat) (x1 : Int) (ν : Mem), p ≤ len → len < p + f → f < n → 0 ≤ x1 → x1 ≤ p → XT tx len ν → ν 63 2 = (p : Int) → ∃ ν', xw_findFault_6 n x1 ν = some (if (gP tx len f p).1 = true then -5 else (((gP tx len f p).2 : Nat) : Int), ν') ∧ XP ν ν' := by
  induction f with
  | zero => intro p n x1 ν hp hf; omega
  | succ f ih =>
    intro p n x1 ν hp hf hn h0 hx T R
    obtain ⟨n, rfl⟩ : ∃ m, n = m + 1 := ⟨n - 1, by omega⟩
    have hl := T.2.1
    obtain ⟨ν1, y1, y0, r1, f1, _⟩ := xord_eq T R hp
    obtain ⟨b1, b2, b3⟩ := oP_b (tx := tx) hp
    have T1 := XT_fr T f1
    rw [xw_findFault_6, if_neg (by omega), gP]
    cases ho : (oP tx len p).1 with
    | false =>
      rw [y0 ho, sb, if_pos rfl, xw_findFault_19]
      refine ⟨ν1, ?_, f1⟩
      show some (ν1 63 2, ν1) = some ((((oP tx len p).2 : Nat) : Int), ν1)
      rw [r1]
    | true =>
      have b4 := b3 ho
      have t1 := T1.1
      rw [y1 ho, sb, if_neg (show ¬ (1 : Int) = 0 by decide), if_pos rfl]
      by_cases c : len ≤ (oP tx len p).2
      · rw [if_neg (show ¬ ν1 63 2 < ν1 63 1 by omega), if_pos c, xw_findFault_35, if_pos rfl]
        exact ⟨ν1, rfl, f1⟩
      · rw [if_pos (show ν1 63 2 < ν1 63 1 by omega), if_neg c]
        by_cases d : nxt tx len 59 59 (oP tx len p).2
        · have f2 : XP ν1 (mst ν1 63 2 (((oP tx len p).2 + 1 : Nat) : Int)) := XP_2 (XP_rf ν1) _
          obtain ⟨ν', e, f3⟩ := ih ((oP tx len p).2 + 1) n (x1 + 1) _ (by omega) (by omega) (by omega) (by omega) (by omega) (XT_fr T1 f2) (mst_same _ _ _ _)
          rw [skip_y T1 r1 d, sb, if_neg (show ¬ (1 : Int) = 0 by decide), w32_eq (by omega) (by omega), bnd_eq, e, if_pos d]
          exact ⟨ν', rfl, XP_tr f1 (XP_tr f2 f3)⟩
        · rw [skip_n T1 r1 d, sb, if_pos rfl, xw_findFault_47, if_neg d]
          refine ⟨ν1, ?_, f1⟩
          show some (ν1 63 2, ν1) = some ((((oP tx len p).2 : Nat) : Int), ν1)
          rw [r1]
end TXT11
