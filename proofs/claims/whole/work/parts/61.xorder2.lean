/-! the class reads an order to where the reference does -/
section TXT9
variable {tx : Nat → Int} {len : Nat}
/-- what the class holds of a read order -/
def hO (tx : Nat → Int) (len p : Nat) (ν : Mem) : Prop := ν 63 3 = ((Wd tx len p : Nat) : Int) ∧ (Wd tx len p ≤ 2 → ∀ q, q < 8 → ν 65 q = mV tx len (wS tx len p).2 q) ∧ (Wd tx len p = 3 → ν 63 5 = tx (wS tx len p).2 - 48) ∧ (Wd tx len p = 4 → ν 63 5 = nV tx len (wS tx len p).2 ∧ ν 63 6 = nV tx len ((nP tx len (wS tx len p).2).2 + 1)) ∧ (Wd tx len p = 5 → ν 63 5 = nV tx len (wS tx len p).2)
theorem rdK_r {ν : Mem} {p : Nat} (T : XT tx len ν) (hq : (wS tx len p).2 ≤ len) (R : ν 63 2 = (((wS tx len p).2 : Nat) : Int)) (h1 : (wS tx len p).1 = true) (h3 : ν 63 3 = ((Wd tx len p : Nat) : Int)) : ∃ ν', ((oP tx len p).1 = true → rdK ν = some (1, ν')) ∧ ((oP tx len p).1 = false → rdK ν = some (0, ν')) ∧ ν' 63 2 = (((oP tx len p).2 : Nat) : Int) ∧ XP ν ν' ∧ ((oP tx len p).1 = true → hO tx len p ν') := by
  have h6 := Wd_6 (tx := tx) (len := len) p
  by_cases c2 : Wd tx len p ≤ 2
  · have ho : oP tx len p = mP tx len (wS tx len p).2 := by unfold oP; rw [if_pos h1, if_pos c2]
    have hk : rdK ν = (xw_readMix ν).bind fun p9 => if p9.1 = 0 ∨ p9.1 = 1 then some (p9.1, p9.2) else none := by
      rw [rdK, bnd_eq, h3, if_neg (by omega), if_neg (by omega), if_neg (by omega)]
    rw [ho, hk, mP]
    by_cases d : nxt tx len 97 104 (wS tx len p).2
    · obtain ⟨ν', e, e2, e3, f⟩ := xmix_y T R d
      rw [if_pos d, e, sb, if_pos (Or.inr rfl)]
      exact ⟨ν', fun _ => rfl, fun z => Bool.noConfusion z, e2, frM_XP f, fun _ => ⟨by rw [f _ _ (Or.inr (by decide)) (by decide)]; exact h3, fun _ => e3, fun z => by omega, fun z => by omega, fun z => by omega⟩⟩
    · obtain ⟨ν', e, e2, f⟩ := xmix_n T R hq d
      rw [if_neg d, e, sb, if_pos (Or.inl rfl)]
      exact ⟨ν', fun z => Bool.noConfusion z, fun _ => rfl, e2, frM_XP f, fun z => Bool.noConfusion z⟩
  · by_cases c3 : Wd tx len p = 3
    · have ho : oP tx len p = sgP tx len 48 57 (true, (wS tx len p).2) := by unfold oP; rw [if_pos h1, if_neg c2, if_pos c3]
      have hk : rdK ν = (xw_readRuleNumber ν).bind fun p4 => if p4.1 = 0 ∨ p4.1 = 1 then some (p4.1, p4.2) else none := by
        rw [rdK, bnd_eq, h3, if_pos (by omega)]
      by_cases d : nxt tx len 48 57 (wS tx len p).2
      · have hs : sgP tx len 48 57 (true, (wS tx len p).2) = (true, (wS tx len p).2 + 1) := by rw [sgP, if_pos ⟨rfl, d⟩]
        obtain ⟨ν', e, e2, e3, f, f3⟩ := rule_y T R d
        rw [ho, hs, hk, e, sb, if_pos (Or.inr rfl)]
        exact ⟨ν', fun _ => rfl, fun z => Bool.noConfusion z, e2, f, fun _ => ⟨by rw [f3]; exact h3, fun z => by omega, fun _ => e3, fun z => by omega, fun z => by omega⟩⟩
      · have hs : sgP tx len 48 57 (true, (wS tx len p).2) = (false, (wS tx len p).2) := by rw [sgP, if_neg (fun z => d z.2)]
        obtain ⟨ν', e, e2, f⟩ := rule_n T R d
        rw [ho, hs, hk, e, sb, if_pos (Or.inl rfl)]
        exact ⟨ν', fun z => Bool.noConfusion z, fun _ => rfl, e2, f, fun z => Bool.noConfusion z⟩
    · by_cases c4 : Wd tx len p = 4
      · have ho : oP tx len p = (if (nP tx len (wS tx len p).2).1 = true then (if nxt tx len 62 62 (nP tx len (wS tx len p).2).2 then nP tx len ((nP tx len (wS tx len p).2).2 + 1) else (false, (nP tx len (wS tx len p).2).2)) else (false, (nP tx len (wS tx len p).2).2)) := by unfold oP; rw [if_pos h1, if_neg c2, if_neg c3, if_pos c4]
        have hk : rdK ν = (xw_readFirst ν).bind fun p5 => if p5.1 = 0 then xw_readOrder_85 p5.2 else (xw_skip 62 p5.2).bind fun p6 => if p6.1 = 0 then xw_readOrder_85 p6.2 else (xw_readSecond p6.2).bind fun p7 => if p7.1 = 0 then xw_readOrder_85 p7.2 else xw_readOrder_86 1 p7.2 := by
          rw [rdK, bnd_eq, h3, if_neg (by omega), if_pos (by omega)]
        have h85 : ∀ ρ : Mem, xw_readOrder_85 ρ = some (0, ρ) := fun ρ => by rw [xw_readOrder_85, xw_readOrder_86, if_pos (Or.inl rfl)]
        have h86 : ∀ ρ : Mem, xw_readOrder_86 1 ρ = some (1, ρ) := fun ρ => by rw [xw_readOrder_86, if_pos (Or.inr rfl)]
        by_cases d : nxt tx len 48 57 (wS tx len p).2
        · have hn1 : (nP tx len (wS tx len p).2).1 = true := by rw [nP, if_pos d]
          obtain ⟨ν1, e1, r1, v1, f1, g1⟩ := first_y T R d
          have T1 := XT_fr T f1
          rw [if_pos hn1] at ho
          by_cases d2 : nxt tx len 62 62 (nP tx len (wS tx len p).2).2
          · rw [if_pos d2] at ho
            have f2 : XP ν1 (mst ν1 63 2 (((nP tx len (wS tx len p).2).2 + 1 : Nat) : Int)) := XP_2 (XP_rf ν1) _
            have T2 := XT_fr T1 f2
            by_cases d3 : nxt tx len 48 57 ((nP tx len (wS tx len p).2).2 + 1)
            · obtain ⟨ν', e3, r3, v3, f3, g3, g5⟩ := second_y T2 (mst_same _ _ _ _) d3
              have hn2 : (nP tx len ((nP tx len (wS tx len p).2).2 + 1)).1 = true := by rw [nP, if_pos d3]
              rw [ho, hk, e1, sb, if_neg (show ¬ (1 : Int) = 0 by decide), skip_y T1 r1 d2, sb, if_neg (show ¬ (1 : Int) = 0 by decide), e3, sb, if_neg (show ¬ (1 : Int) = 0 by decide), h86]
              exact ⟨ν', fun _ => rfl, fun z => by rw [hn2] at z; exact Bool.noConfusion z, r3, XP_tr f1 (XP_tr f2 f3), fun _ => ⟨by rw [g3, mst_ix (by decide), g1]; exact h3, fun z => by omega, fun z => by omega, fun _ => ⟨by rw [g5, mst_ix (by decide)]; exact v1, v3⟩, fun z => by omega⟩⟩
            · obtain ⟨ν', e3, r3, f3⟩ := second_n T2 (mst_same _ _ _ _) d3
              have hn2 : nP tx len ((nP tx len (wS tx len p).2).2 + 1) = (false, (nP tx len (wS tx len p).2).2 + 1) := by rw [nP, if_neg d3]
              rw [ho, hn2, hk, e1, sb, if_neg (show ¬ (1 : Int) = 0 by decide), skip_y T1 r1 d2, sb, if_neg (show ¬ (1 : Int) = 0 by decide), e3, sb, if_pos rfl, h85]
              exact ⟨ν', fun z => Bool.noConfusion z, fun _ => rfl, r3, XP_tr f1 (XP_tr f2 f3), fun z => Bool.noConfusion z⟩
          · rw [if_neg d2] at ho
            rw [ho, hk, e1, sb, if_neg (show ¬ (1 : Int) = 0 by decide), skip_n T1 r1 d2, sb, if_pos rfl, h85]
            exact ⟨ν1, fun z => Bool.noConfusion z, fun _ => rfl, r1, f1, fun z => Bool.noConfusion z⟩
        · have hn1 : nP tx len (wS tx len p).2 = (false, (wS tx len p).2) := by rw [nP, if_neg d]
          obtain ⟨ν1, e1, r1, f1⟩ := first_n T R d
          rw [hn1, if_neg (show ¬ (false = true) by decide)] at ho
          rw [ho, hk, e1, sb, if_pos rfl, h85]
          exact ⟨ν1, fun z => Bool.noConfusion z, fun _ => rfl, r1, f1, fun z => Bool.noConfusion z⟩
      · have c5 : Wd tx len p = 5 := by omega
        have ho : oP tx len p = nP tx len (wS tx len p).2 := by unfold oP; rw [if_pos h1, if_neg c2, if_neg c3, if_neg c4]
        have hk : rdK ν = (xw_readFirst ν).bind fun p8 => if p8.1 = 0 ∨ p8.1 = 1 then some (p8.1, p8.2) else none := by
          rw [rdK, bnd_eq, h3, if_neg (by omega), if_neg (by omega), if_pos (by omega)]
        by_cases d : nxt tx len 48 57 (wS tx len p).2
        · have hn1 : (nP tx len (wS tx len p).2).1 = true := by rw [nP, if_pos d]
          obtain ⟨ν1, e1, r1, v1, f1, g1⟩ := first_y T R d
          rw [ho, hk, e1, sb, if_pos (Or.inr rfl)]
          exact ⟨ν1, fun _ => rfl, fun z => by rw [hn1] at z; exact Bool.noConfusion z, r1, f1, fun _ => ⟨by rw [g1]; exact h3, fun z => by omega, fun z => by omega, fun z => by omega, fun _ => v1⟩⟩
        · have hn1 : nP tx len (wS tx len p).2 = (false, (wS tx len p).2) := by rw [nP, if_neg d]
          obtain ⟨ν1, e1, r1, f1⟩ := first_n T R d
          rw [ho, hn1, hk, e1, sb, if_pos (Or.inl rfl)]
          exact ⟨ν1, fun z => Bool.noConfusion z, fun _ => rfl, r1, f1, fun z => Bool.noConfusion z⟩
theorem xord_eq {ν : Mem} {p : Nat} (T : XT tx len ν) (R : ν 63 2 = (p : Int)) (hp : p ≤ len) : ∃ ν', ((oP tx len p).1 = true → xw_readOrder ν = some (1, ν')) ∧ ((oP tx len p).1 = false → xw_readOrder ν = some (0, ν')) ∧ ν' 63 2 = (((oP tx len p).2 : Nat) : Int) ∧ XP ν ν' ∧ ((oP tx len p).1 = true → hO tx len p ν') := by
  have hq : (wS tx len p).2 ≤ len := wdP_le _ _ hp
  obtain ⟨ν1, e1, e0, r1, h3, f1⟩ := xword_eq T R hp rdK
  rw [← rdK_eq] at e1 e0
  have F1 : XP ν ν1 := fun a b z _ => f1 a b (by omega)
  cases hw : (wS tx len p).1 with
  | true =>
    obtain ⟨ν', a1, a0, r2, f2, h⟩ := rdK_r (XT_fr T F1) hq r1 hw (h3 hw)
    exact ⟨ν', fun z => by rw [e1 hw, a1 z], fun z => by rw [e1 hw, a0 z], r2, XP_tr F1 f2, h⟩
  | false =>
    have ho : oP tx len p = (false, (wS tx len p).2) := by unfold oP; rw [hw, if_neg (show ¬ (false = true) by decide)]
    rw [ho]
    exact ⟨ν1, fun z => Bool.noConfusion z, fun _ => e0 hw, r1, F1, fun z => Bool.noConfusion z⟩
end TXT9
