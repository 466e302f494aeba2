/-! the class's words -/
section TXT3
variable {tx : Nat → Int} {len : Nat}
def chs : Nat → List Int
  | 0 => [106, 97, 114]
  | 1 => [114, 117, 108, 101]
  | 2 => [119, 97, 110, 116]
  | 3 => [100, 114, 111, 112]
  | 4 => [112, 111, 117, 114]
  | _ => [109, 111, 114, 101]
def jdx (k i : Nat) : Int := ((Int32.ofInt (and32 (((bytS.getD k []).getD i 0).toInt) 255)).toUInt32 % 65536).toInt32.toInt
theorem jd_x (k i : Nat) : jd_ch k i = jdx k i := by unfold jd_ch jdx; rw [nch_def]
theorem jdx_c : ∀ k : Fin 6, ∀ i : Fin (chs k.val).length, jdx k.val i.val = (chs k.val)[i] := by decide +kernel
theorem chs_len : ∀ k : Fin 6, lenS.getD k.val 0 = (chs k.val).length := by decide
theorem jlen_eq {w : Nat} (h : w < 6) : jd_length (1001 + w) = some (((chs w).length : Nat) : Int) := by
  have e := chs_len ⟨w, h⟩
  unfold jd_length
  rw [if_pos (by omega), show 1001 + w - 1001 = w by omega, e]
theorem jchar_eq {w i : Nat} (h : w < 6) (hi : i < (chs w).length) : jd_charAt (1001 + w) (i : Int) = some (chs w)[i] := by
  have e := chs_len ⟨w, h⟩
  have c := jdx_c ⟨w, h⟩ ⟨i, hi⟩
  unfold jd_charAt
  rw [show 1001 + w - 1001 = w by omega, e, if_pos ⟨by omega, by omega, by show (i : Int) < (((chs w).length : Nat) : Int); omega⟩, Int.toNat_natCast, jd_x]
  exact congrArg some c
theorem mst_fr (ν : Mem) (q : Nat) (v : Int) (hq : q = 2 ∨ q = 3) : ∀ a b, (a ≠ 63 ∨ (b ≠ 2 ∧ b ≠ 3)) → mst ν 63 q v a b = ν a b := fun a b z => by
  by_cases y : a = 63
  · subst y; exact mst_ix (by omega)
  · exact mst_pl y
theorem XT_f2 {ν ν' : Mem} (T : XT tx len ν) (f : ∀ a b, (a ≠ 63 ∨ (b ≠ 2 ∧ b ≠ 3)) → ν' a b = ν a b) : XT tx len ν' := ⟨by rw [f _ _ (by decide)]; exact T.1, T.2.1, fun i hi => by rw [f 64 i (Or.inl (by decide))]; exact T.2.2 i hi⟩
theorem rw41_lp {w : Nat} (hw : w < 6) (cs : List Int) : ∀ (k p n : Nat) (ν : Mem), cs = (chs w).drop k → k ≤ (chs w).length → cs.length < n → p ≤ len → XT tx len ν → ν 63 2 = (p : Int) → ∃ ν', ((wdP tx len cs (true, p)).1 = true → xw_readWord_41 n (1001 + w) (k : Int) ν = xw_readWord_69 ν') ∧ ((wdP tx len cs (true, p)).1 = false → xw_readWord_41 n (1001 + w) (k : Int) ν = some (0, ν')) ∧ ν' 63 2 = (((wdP tx len cs (true, p)).2 : Nat) : Int) ∧ (∀ a b, (a ≠ 63 ∨ b ≠ 2) → ν' a b = ν a b) := by
  induction cs with
  | nil =>
    intro k p n ν hcs hk hn hp T R
    obtain ⟨n, rfl⟩ : ∃ m, n = m + 1 := ⟨n - 1, by omega⟩
    have hkl : (chs w).length ≤ k := by
      have := congrArg List.length hcs
      rw [List.length_drop] at this
      simp only [List.length_nil] at this
      omega
    refine ⟨ν, fun _ => ?_, fun z => Bool.noConfusion z, R, fun _ _ _ => rfl⟩
    rw [xw_readWord_41, jlen_eq hw, sb, if_pos (by omega)]
  | cons c cs ih =>
    intro k p n ν hcs hk hn hp T R
    obtain ⟨n, rfl⟩ : ∃ m, n = m + 1 := ⟨n - 1, by omega⟩
    have hl := T.2.1
    have hkl : k < (chs w).length := by
      have := congrArg List.length hcs
      rw [List.length_drop] at this
      simp only [List.length_cons] at this
      omega
    have hdrop := List.drop_eq_getElem_cons hkl
    rw [← hcs] at hdrop
    have hc : c = (chs w)[k] := (List.cons.inj hdrop).1
    have hcs' : cs = (chs w).drop (k + 1) := (List.cons.inj hdrop).2
    have h6 : (chs w).length ≤ 4 := by
      have : ∀ k : Fin 6, (chs k.val).length ≤ 4 := by decide
      exact this ⟨w, hw⟩
    have e3 : w32 ((k : Int) + 1) = ((k + 1 : Nat) : Int) := by rw [w32_eq (by omega) (by omega)]; omega
    rw [xw_readWord_41, jlen_eq hw, sb, if_neg (by omega), jchar_eq hw hkl, sb, ← hc, wdP, sgP]
    by_cases d : nxt tx len c c p
    · have f' : XP ν (mst ν 63 2 ((p + 1 : Nat) : Int)) := XP_2 (XP_rf ν) _
      rw [skip_y T R d, sb, if_neg (show ¬ (1 : Int) = 0 by decide), e3, bnd_eq, if_pos ⟨rfl, d⟩]
      simp only [List.length_cons] at hn
      obtain ⟨ν', e1, e1', e2, e4⟩ := ih (k + 1) (p + 1) n (mst ν 63 2 ((p + 1 : Nat) : Int)) hcs' (by omega) (by omega) (by have := d.1; omega) (XT_fr T f') (mst_same _ _ _ _)
      exact ⟨ν', e1, e1', e2, fun a b z => by
        rw [e4 a b z]
        by_cases y : a = 63
        · subst y; exact mst_ix (by omega)
        · exact mst_pl y⟩
    · rw [skip_n T R d, sb, if_pos rfl, xw_readWord_61, if_neg (fun z => d z.2), wdP_f]
      exact ⟨ν, fun z => Bool.noConfusion z, fun _ => rfl, R, fun _ _ _ => rfl⟩
/-- which word it must be -/
def Wd (tx : Nat → Int) (len : Nat) (p : Nat) : Nat := if nxt tx len 106 106 p then 0 else if nxt tx len 114 114 p then 1 else if nxt tx len 119 119 p then 2 else if nxt tx len 100 100 p then 3 else if nxt tx len 112 112 p then 4 else 5
theorem Wd_6 (p : Nat) : Wd tx len p < 6 := by
  unfold Wd
  repeat' split
  all_goals omega
theorem rword_w {ν : Mem} {p w : Nat} (T : XT tx len ν) (R : ν 63 2 = (p : Int)) (hw : w < 6) (hp : p < len) (hwd : xw_wordWith (tx p) = some (w : Int)) : ∃ ν', ((wdP tx len (chs w) (true, p)).1 = true → xw_readWord ν = some (1, ν')) ∧ ((wdP tx len (chs w) (true, p)).1 = false → xw_readWord ν = some (0, ν')) ∧ ν' 63 2 = (((wdP tx len (chs w) (true, p)).2 : Nat) : Int) ∧ ν' 63 3 = (w : Int) ∧ (∀ a b, (a ≠ 63 ∨ (b ≠ 2 ∧ b ≠ 3)) → ν' a b = ν a b) := by
  have hl := T.2.1
  have h4 : (chs w).length ≤ 4 := by
    have : ∀ k : Fin 6, (chs k.val).length ≤ 4 := by decide
    exact this ⟨w, hw⟩
  have hlet : xw_lettersOf (w : Int) = some (1001 + w) := by
    have : ∀ k : Fin 6, xw_lettersOf (k.val : Int) = some (1001 + k.val) := by
      intro k
      obtain ⟨k, hk⟩ := k
      rcases (show k = 0 ∨ k = 1 ∨ k = 2 ∨ k = 3 ∨ k = 4 ∨ k = 5 by omega) with rfl | rfl | rfl | rfl | rfl | rfl <;> rfl
    exact this ⟨w, hw⟩
  have m3 := mst_fr ν 3 (w : Int) (Or.inr rfl)
  obtain ⟨ν', e1, e1', e2, e3⟩ := rw41_lp hw (chs w) 0 p FU (mst ν 63 3 (w : Int)) rfl (by omega) (by have := FU_ge; omega) (by omega) (XT_f2 T m3) (by rw [mst_ix (by decide)]; exact R)
  rw [show ((0 : Nat) : Int) = 0 from rfl] at e1 e1'
  have h3 : ν' 63 3 = (w : Int) := by rw [e3 _ _ (by decide), mst_same]
  have hr : xw_readWord ν = xw_readWord_41 FU (1001 + w) 0 (mst ν 63 3 (w : Int)) := by
    rw [xw_readWord, T.1, R, if_neg (by omega), aget_eq (by omega) (by omega), sb, Int.toNat_natCast, (T.2.2 p hp).1, hwd, sb, xw_readWord_28, bnd_eq, mst_same, hlet, sb]
  refine ⟨ν', fun z => ?_, fun z => by rw [hr, e1' z], e2, h3, fun a b z => by rw [e3 a b (by omega), m3 a b z]⟩
  rw [hr, e1 z, xw_readWord_69, h3, if_neg (by omega), xw_readWord_82, if_pos (Or.inr rfl)]
theorem rword_no {ν : Mem} {p : Nat} (T : XT tx len ν) (R : ν 63 2 = (p : Int)) (h : p < len → xw_wordWith (tx p) = some (-1)) : ∃ ν', xw_readWord ν = some (0, ν') ∧ ν' 63 2 = (p : Int) ∧ (∀ a b, (a ≠ 63 ∨ (b ≠ 2 ∧ b ≠ 3)) → ν' a b = ν a b) := by
  have hl := T.2.1
  obtain ⟨n, hn⟩ : ∃ m, FU = m + 1 := ⟨FU - 1, by have := FU_ge; omega⟩
  have h28 : xw_readWord_28 (-1) ν = some (0, mst ν 63 3 (-1)) := by
    rw [xw_readWord_28, bnd_eq, mst_same, show xw_lettersOf (-1) = some 1007 from rfl, sb, hn, xw_readWord_41, show jd_length 1007 = some 0 from rfl, sb, if_pos (by decide), xw_readWord_69, mst_same, if_pos rfl, xw_readWord_82, if_pos (Or.inl rfl)]
  refine ⟨mst ν 63 3 (-1), ?_, by rw [mst_ix (by decide)]; exact R, fun a b z => ?_⟩
  · rw [xw_readWord, T.1, R]
    by_cases c : (len : Int) ≤ (p : Int)
    · rw [if_pos c, h28]
    · have hp : p < len := by omega
      rw [if_neg c, aget_eq (by omega) (by omega), sb, Int.toNat_natCast, (T.2.2 p hp).1, h hp, sb, h28]
  · by_cases y : a = 63
    · subst y; exact mst_ix (by omega)
    · exact mst_pl y
theorem wordWith_eq (v : Int) : xw_wordWith v = some (if v = 106 then 0 else if v = 114 then 1 else if v = 119 then 2 else if v = 100 then 3 else if v = 112 then 4 else if v = 109 then 5 else -1) := by
  by_cases h : 100 ≤ v ∧ v ≤ 119
  · rcases (show v = 100 ∨ v = 101 ∨ v = 102 ∨ v = 103 ∨ v = 104 ∨ v = 105 ∨ v = 106 ∨ v = 107 ∨ v = 108 ∨ v = 109 ∨ v = 110 ∨ v = 111 ∨ v = 112 ∨ v = 113 ∨ v = 114 ∨ v = 115 ∨ v = 116 ∨ v = 117 ∨ v = 118 ∨ v = 119 by omega) with rfl | rfl | rfl | rfl | rfl | rfl | rfl | rfl | rfl | rfl | rfl | rfl | rfl | rfl | rfl | rfl | rfl | rfl | rfl | rfl <;> rfl
  · rw [xw_wordWith]
    repeat rw [if_neg (by omega)]
    rw [xw_wordWith_108]
/-- a word and its equals sign -/
theorem xword_eq {ν : Mem} {p : Nat} (T : XT tx len ν) (R : ν 63 2 = (p : Int)) (hp : p ≤ len) (K : Mem → Option (Int × Mem)) : ∃ ν', ((wdP tx len (chs (Wd tx len p) ++ [61]) (true, p)).1 = true → ((xw_readWord ν).bind fun p1 => if p1.1 = 0 then xw_readOrder_16 p1.2 else (xw_skip 61 p1.2).bind fun p2 => if p2.1 = 0 then xw_readOrder_16 p2.2 else K p2.2) = K ν') ∧ ((wdP tx len (chs (Wd tx len p) ++ [61]) (true, p)).1 = false → ((xw_readWord ν).bind fun p1 => if p1.1 = 0 then xw_readOrder_16 p1.2 else (xw_skip 61 p1.2).bind fun p2 => if p2.1 = 0 then xw_readOrder_16 p2.2 else K p2.2) = some (0, ν')) ∧ ν' 63 2 = (((wdP tx len (chs (Wd tx len p) ++ [61]) (true, p)).2 : Nat) : Int) ∧ ((wdP tx len (chs (Wd tx len p) ++ [61]) (true, p)).1 = true → ν' 63 3 = ((Wd tx len p : Nat) : Int)) ∧ (∀ a b, (a ≠ 63 ∨ (b ≠ 2 ∧ b ≠ 3)) → ν' a b = ν a b) := by
  have hyes : ∀ w : Nat, w < 6 → p < len → xw_wordWith (tx p) = some (w : Int) → Wd tx len p = w → ∃ ν', ((wdP tx len (chs (Wd tx len p) ++ [61]) (true, p)).1 = true → ((xw_readWord ν).bind fun p1 => if p1.1 = 0 then xw_readOrder_16 p1.2 else (xw_skip 61 p1.2).bind fun p2 => if p2.1 = 0 then xw_readOrder_16 p2.2 else K p2.2) = K ν') ∧ ((wdP tx len (chs (Wd tx len p) ++ [61]) (true, p)).1 = false → ((xw_readWord ν).bind fun p1 => if p1.1 = 0 then xw_readOrder_16 p1.2 else (xw_skip 61 p1.2).bind fun p2 => if p2.1 = 0 then xw_readOrder_16 p2.2 else K p2.2) = some (0, ν')) ∧ ν' 63 2 = (((wdP tx len (chs (Wd tx len p) ++ [61]) (true, p)).2 : Nat) : Int) ∧ ((wdP tx len (chs (Wd tx len p) ++ [61]) (true, p)).1 = true → ν' 63 3 = ((Wd tx len p : Nat) : Int)) ∧ (∀ a b, (a ≠ 63 ∨ (b ≠ 2 ∧ b ≠ 3)) → ν' a b = ν a b) := fun w hw hpl hwd hW => by
    rw [hW, wdP_app]
    obtain ⟨ν1, e1, e1', e2, e3, e4⟩ := rword_w T R hw hpl hwd
    have hle := wdP_le (tx := tx) (chs w) (true, p) hp
    generalize wdP tx len (chs w) (true, p) = s at e1 e1' e2 hle ⊢
    obtain ⟨ok, q⟩ := s
    cases ok with
    | false =>
      rw [e1' rfl, sb, if_pos rfl, xw_readOrder_16, wdP_f]
      exact ⟨ν1, fun z => Bool.noConfusion z, fun _ => rfl, e2, fun z => Bool.noConfusion z, e4⟩
    | true =>
      have T1 := XT_f2 T e4
      rw [e1 rfl, sb, if_neg (show ¬ (1 : Int) = 0 by decide), wdP, wdP, sgP]
      by_cases d : nxt tx len 61 61 q
      · have m2 := mst_fr ν1 2 ((q + 1 : Nat) : Int) (Or.inl rfl)
        rw [skip_y T1 e2 d, sb, if_neg (show ¬ (1 : Int) = 0 by decide), if_pos ⟨rfl, d⟩]
        exact ⟨mst ν1 63 2 ((q + 1 : Nat) : Int), fun _ => rfl, fun z => Bool.noConfusion z, mst_same _ _ _ _, fun _ => by rw [mst_ix (by decide)]; exact e3, fun a b z => by rw [m2 a b z, e4 a b z]⟩
      · rw [skip_n T1 e2 d, sb, if_pos rfl, xw_readOrder_16, if_neg (fun z => d z.2)]
        exact ⟨ν1, fun z => Bool.noConfusion z, fun _ => rfl, e2, fun z => Bool.noConfusion z, e4⟩
  have hno : (p < len → xw_wordWith (tx p) = some (-1)) → Wd tx len p = 5 → ¬ nxt tx len 109 109 p → ∃ ν', ((wdP tx len (chs (Wd tx len p) ++ [61]) (true, p)).1 = true → ((xw_readWord ν).bind fun p1 => if p1.1 = 0 then xw_readOrder_16 p1.2 else (xw_skip 61 p1.2).bind fun p2 => if p2.1 = 0 then xw_readOrder_16 p2.2 else K p2.2) = K ν') ∧ ((wdP tx len (chs (Wd tx len p) ++ [61]) (true, p)).1 = false → ((xw_readWord ν).bind fun p1 => if p1.1 = 0 then xw_readOrder_16 p1.2 else (xw_skip 61 p1.2).bind fun p2 => if p2.1 = 0 then xw_readOrder_16 p2.2 else K p2.2) = some (0, ν')) ∧ ν' 63 2 = (((wdP tx len (chs (Wd tx len p) ++ [61]) (true, p)).2 : Nat) : Int) ∧ ((wdP tx len (chs (Wd tx len p) ++ [61]) (true, p)).1 = true → ν' 63 3 = ((Wd tx len p : Nat) : Int)) ∧ (∀ a b, (a ≠ 63 ∨ (b ≠ 2 ∧ b ≠ 3)) → ν' a b = ν a b) := fun h hW h109 => by
    obtain ⟨ν1, e1, e2, e4⟩ := rword_no T R h
    have hs : wdP tx len (chs 5 ++ [61]) (true, p) = (false, p) := by
      show wdP tx len (109 :: [111, 114, 101, 61]) (true, p) = (false, p)
      rw [wdP, sgP, if_neg (fun z => h109 z.2), wdP_f]
    rw [hW, hs, e1, sb, if_pos rfl, xw_readOrder_16]
    exact ⟨ν1, fun z => Bool.noConfusion z, fun _ => rfl, e2, fun z => Bool.noConfusion z, e4⟩
  by_cases hpl : p < len
  · have hww := wordWith_eq (tx p)
    by_cases a1 : tx p = 106
    · rw [if_pos a1] at hww
      exact hyes 0 (by omega) hpl hww (by unfold Wd; rw [if_pos ⟨hpl, by omega, by omega⟩])
    · rw [if_neg a1] at hww
      by_cases a2 : tx p = 114
      · rw [if_pos a2] at hww
        exact hyes 1 (by omega) hpl hww (by unfold Wd; rw [if_neg (fun z => by have := z.2; omega), if_pos ⟨hpl, by omega, by omega⟩])
      · rw [if_neg a2] at hww
        by_cases a3 : tx p = 119
        · rw [if_pos a3] at hww
          exact hyes 2 (by omega) hpl hww (by unfold Wd; rw [if_neg (fun z => by have := z.2; omega), if_neg (fun z => by have := z.2; omega), if_pos ⟨hpl, by omega, by omega⟩])
        · rw [if_neg a3] at hww
          by_cases a4 : tx p = 100
          · rw [if_pos a4] at hww
            exact hyes 3 (by omega) hpl hww (by unfold Wd; rw [if_neg (fun z => by have := z.2; omega), if_neg (fun z => by have := z.2; omega), if_neg (fun z => by have := z.2; omega), if_pos ⟨hpl, by omega, by omega⟩])
          · rw [if_neg a4] at hww
            by_cases a5 : tx p = 112
            · rw [if_pos a5] at hww
              exact hyes 4 (by omega) hpl hww (by unfold Wd; rw [if_neg (fun z => by have := z.2; omega), if_neg (fun z => by have := z.2; omega), if_neg (fun z => by have := z.2; omega), if_neg (fun z => by have := z.2; omega), if_pos ⟨hpl, by omega, by omega⟩])
            · rw [if_neg a5] at hww
              have hW5 : Wd tx len p = 5 := by unfold Wd; rw [if_neg (fun z => by have := z.2; omega), if_neg (fun z => by have := z.2; omega), if_neg (fun z => by have := z.2; omega), if_neg (fun z => by have := z.2; omega), if_neg (fun z => by have := z.2; omega)]
              by_cases a6 : tx p = 109
              · rw [if_pos a6] at hww
                exact hyes 5 (by omega) hpl hww hW5
              · rw [if_neg a6] at hww
                exact hno (fun _ => hww) hW5 (fun z => by have := z.2; omega)
  · exact hno (fun z => absurd z hpl) (by unfold Wd; rw [if_neg (fun z => hpl z.1), if_neg (fun z => hpl z.1), if_neg (fun z => hpl z.1), if_neg (fun z => hpl z.1), if_neg (fun z => hpl z.1)]) (fun z => hpl z.1)
end TXT3
