/-! an order, done by the reference -/
section TXT7
variable {tx : Nat → Int} {len : Nat}
theorem bind_eta (x : Option (Int × Mem)) : (x.bind fun r => some (r.1, r.2)) = x := by cases x <;> rfl
noncomputable def opM (tx : Nat → Int) (len p : Nat) (μ : Mem) : Option (Int × Mem) :=
  if Wd tx len p = 0 then mm_comes (mS (mV tx len (wS tx len p).2) 8) (μ 0 16) (μ 0 17) μ else
  if Wd tx len p = 1 then mm_rules (mS (mV tx len (wS tx len p).2) 8) μ else
  if Wd tx len p = 2 then mm_wants (mS (mV tx len (wS tx len p).2) 8) μ else
  if Wd tx len p = 3 then mm_drops (tx (wS tx len p).2 - 48) μ else
  if Wd tx len p = 4 then mm_pours (nV tx len (wS tx len p).2) (nV tx len ((nP tx len (wS tx len p).2).2 + 1)) μ else
  mm_buysMore (nV tx len (wS tx len p).2) μ
theorem mord_eq {a : Nat → Int} {μ : Mem} {p : Nat} (hpa : okP a) (T : RT tx len μ) (R : RS2 μ true p) (hp : p ≤ len) (ha : ∀ j, j < 8 → μ 1 j = a j) : ∃ μ', PF μ μ' ∧ RS2 μ' (oP tx len p).1 (oP tx len p).2 ∧ mm_order 0 μ = some (0, μ') ∧ ((oP tx len p).1 = true → (∀ a1, a1 ≠ 0 → mm_order a1 μ = opM tx len p μ') ∧ (Wd tx len p ≤ 2 → GA a (mV tx len (wS tx len p).2) μ')) := by
  have hq : (wS tx len p).2 ≤ len := wdP_le _ _ hp
  by_cases c0 : nxt tx len 106 106 p
  · have hW : Wd tx len p = 0 := by unfold Wd; rw [if_pos c0]
    obtain ⟨μs, e1, Rs, f1⟩ := mword (a1 := 97) (a2 := 114) (a3 := 0) (a4 := 0) T R hp c0
    have hw : wS tx len p = wdP tx len (106 :: ([97, 114] ++ ((if (0 : Int) = 0 then [] else [0]) ++ ((if (0 : Int) = 0 then [] else [0]) ++ [61])))) (true, p) := by unfold wS; rw [hW]; rfl
    rw [← hw] at Rs
    have ha1 : ∀ j, j < 8 → μs 1 j = a j := fun j hj => by rw [f1 1 j (Or.inl (by decide))]; exact ha j hj
    obtain ⟨v, μ', e2, f2, g1, g2, g3⟩ := mix_g hpa (RT_fr T f1) Rs hq ha1
    have ho : oP tx len p = if (wS tx len p).1 = true then mP tx len (wS tx len p).2 else (false, (wS tx len p).2) := by unfold oP; rw [hW, if_pos (show (0 : Nat) ≤ 2 by decide)]
    have hR : RS2 μ' (oP tx len p).1 (oP tx len p).2 := by
      rw [ho]
      cases hok : (wS tx len p).1 with
      | true => rw [if_pos rfl]; exact g1 hok
      | false => rw [if_neg (by decide)]; exact g2 hok
    have o0 : ∀ x, mm_order x μ = if x = 0 then some (0, μ') else (mm_comes v (μ' 0 16) (μ' 0 17) μ').bind fun r => some (r.1, r.2) := fun x => by
      rw [mm_order, isNext_y T R c0, sb, if_neg (by decide), bnd_eq, e1, sb, e2, sb, bnd_eq]
      rfl
    refine ⟨μ', PF_tr f1 f2, hR, by rw [o0, if_pos rfl], fun hok => ?_⟩
    rw [ho] at hok
    cases k1 : (wS tx len p).1 with
    | false => rw [k1, if_neg (by decide)] at hok; exact Bool.noConfusion hok
    | true =>
      rw [k1, if_pos rfl] at hok
      obtain ⟨hv, hG⟩ := g3 k1 hok
      exact ⟨fun x hx => by rw [o0, if_neg hx, bind_eta, opM, hW, if_pos rfl, hv], fun _ => hG⟩
  · by_cases c1 : nxt tx len 114 114 p
    · have hW : Wd tx len p = 1 := by unfold Wd; rw [if_neg c0, if_pos c1]
      obtain ⟨μs, e1, Rs, f1⟩ := mword (a1 := 117) (a2 := 108) (a3 := 101) (a4 := 0) T R hp c1
      have hw : wS tx len p = wdP tx len (114 :: ([117, 108] ++ ((if (101 : Int) = 0 then [] else [101]) ++ ((if (0 : Int) = 0 then [] else [0]) ++ [61])))) (true, p) := by unfold wS; rw [hW]; rfl
      rw [← hw] at Rs
      have ha1 : ∀ j, j < 8 → μs 1 j = a j := fun j hj => by rw [f1 1 j (Or.inl (by decide))]; exact ha j hj
      obtain ⟨v, μ', e2, f2, g1, g2, g3⟩ := mix_g hpa (RT_fr T f1) Rs hq ha1
      have ho : oP tx len p = if (wS tx len p).1 = true then mP tx len (wS tx len p).2 else (false, (wS tx len p).2) := by unfold oP; rw [hW, if_pos (show (1 : Nat) ≤ 2 by decide)]
      have hR : RS2 μ' (oP tx len p).1 (oP tx len p).2 := by
        rw [ho]
        cases hok : (wS tx len p).1 with
        | true => rw [if_pos rfl]; exact g1 hok
        | false => rw [if_neg (by decide)]; exact g2 hok
      have o0 : ∀ x, mm_order x μ = if x = 0 then some (0, μ') else (mm_rules v μ').bind fun r => some (r.1, r.2) := fun x => by
        rw [mm_order, isNext_n T R (fun z => c0 z.2), sb, if_pos rfl, isNext_y T R c1, sb, if_neg (by decide), bnd_eq, e1, sb, e2, sb, bnd_eq]
        rfl
      refine ⟨μ', PF_tr f1 f2, hR, by rw [o0, if_pos rfl], fun hok => ?_⟩
      rw [ho] at hok
      cases k1 : (wS tx len p).1 with
      | false => rw [k1, if_neg (by decide)] at hok; exact Bool.noConfusion hok
      | true =>
        rw [k1, if_pos rfl] at hok
        obtain ⟨hv, hG⟩ := g3 k1 hok
        exact ⟨fun x hx => by rw [o0, if_neg hx, bind_eta, opM, hW, if_neg (show ¬ (1 : Nat) = 0 by decide), if_pos rfl, hv], fun _ => hG⟩
    · by_cases c2 : nxt tx len 119 119 p
      · have hW : Wd tx len p = 2 := by unfold Wd; rw [if_neg c0, if_neg c1, if_pos c2]
        obtain ⟨μs, e1, Rs, f1⟩ := mword (a1 := 97) (a2 := 110) (a3 := 116) (a4 := 0) T R hp c2
        have hw : wS tx len p = wdP tx len (119 :: ([97, 110] ++ ((if (116 : Int) = 0 then [] else [116]) ++ ((if (0 : Int) = 0 then [] else [0]) ++ [61])))) (true, p) := by unfold wS; rw [hW]; rfl
        rw [← hw] at Rs
        have ha1 : ∀ j, j < 8 → μs 1 j = a j := fun j hj => by rw [f1 1 j (Or.inl (by decide))]; exact ha j hj
        obtain ⟨v, μ', e2, f2, g1, g2, g3⟩ := mix_g hpa (RT_fr T f1) Rs hq ha1
        have ho : oP tx len p = if (wS tx len p).1 = true then mP tx len (wS tx len p).2 else (false, (wS tx len p).2) := by unfold oP; rw [hW, if_pos (show (2 : Nat) ≤ 2 by decide)]
        have hR : RS2 μ' (oP tx len p).1 (oP tx len p).2 := by
          rw [ho]
          cases hok : (wS tx len p).1 with
          | true => rw [if_pos rfl]; exact g1 hok
          | false => rw [if_neg (by decide)]; exact g2 hok
        have o0 : ∀ x, mm_order x μ = if x = 0 then some (0, μ') else (mm_wants v μ').bind fun r => some (r.1, r.2) := fun x => by
          rw [mm_order, isNext_n T R (fun z => c0 z.2), sb, if_pos rfl, isNext_n T R (fun z => c1 z.2), sb, if_pos rfl, isNext_y T R c2, sb, if_neg (by decide), bnd_eq, e1, sb, e2, sb, bnd_eq]
          rfl
        refine ⟨μ', PF_tr f1 f2, hR, by rw [o0, if_pos rfl], fun hok => ?_⟩
        rw [ho] at hok
        cases k1 : (wS tx len p).1 with
        | false => rw [k1, if_neg (by decide)] at hok; exact Bool.noConfusion hok
        | true =>
          rw [k1, if_pos rfl] at hok
          obtain ⟨hv, hG⟩ := g3 k1 hok
          exact ⟨fun x hx => by rw [o0, if_neg hx, bind_eta, opM, hW, if_neg (show ¬ (2 : Nat) = 0 by decide), if_neg (show ¬ (2 : Nat) = 1 by decide), if_pos rfl, hv], fun _ => hG⟩
      · by_cases c3 : nxt tx len 100 100 p
        · have hW : Wd tx len p = 3 := by unfold Wd; rw [if_neg c0, if_neg c1, if_neg c2, if_pos c3]
          obtain ⟨μs, e1, Rs, f1⟩ := mword (a1 := 114) (a2 := 111) (a3 := 112) (a4 := 0) T R hp c3
          have hw : wS tx len p = wdP tx len (100 :: ([114, 111] ++ ((if (112 : Int) = 0 then [] else [112]) ++ ((if (0 : Int) = 0 then [] else [0]) ++ [61])))) (true, p) := by unfold wS; rw [hW]; rfl
          rw [← hw] at Rs
          have ha1 : ∀ j, j < 8 → μs 1 j = a j := fun j hj => by rw [f1 1 j (Or.inl (by decide))]; exact ha j hj
          by_cases k : (wS tx len p).1 = true ∧ nxt tx len 48 57 (wS tx len p).2
          · have kk := k.2.2
            rw [k.1] at Rs
            obtain ⟨μ', e2, R2, f2, _⟩ := sign_y (RT_fr T f1) Rs k.2
            have ho : oP tx len p = (true, (wS tx len p).2 + 1) := by unfold oP; rw [hW, if_pos k.1, if_neg (show ¬ (3 : Nat) ≤ 2 by decide), if_pos rfl, sgP, if_pos ⟨rfl, k.2⟩]
            have o0 : ∀ x, mm_order x μ = if x = 0 then some (0, μ') else (mm_drops (tx (wS tx len p).2 - 48) μ').bind fun r => some (r.1, r.2) := fun x => by
              rw [mm_order, isNext_n T R (fun z => c0 z.2), sb, if_pos rfl, isNext_n T R (fun z => c1 z.2), sb, if_pos rfl, isNext_n T R (fun z => c2 z.2), sb, if_pos rfl, isNext_y T R c3, sb, if_neg (by decide), bnd_eq, e1, sb, e2, sb, w32_eq (x := tx (wS tx len p).2 - 48) (by omega) (by omega), bnd_eq]
              rfl
            refine ⟨μ', PF_tr f1 f2, by rw [ho]; exact R2, by rw [o0, if_pos rfl], fun _ => ⟨fun x hx => ?_, fun z => by rw [hW] at z; omega⟩⟩
            rw [o0, if_neg hx, bind_eta, opM, hW, if_neg (show ¬ (3 : Nat) = 0 by decide), if_neg (show ¬ (3 : Nat) = 1 by decide), if_neg (show ¬ (3 : Nat) = 2 by decide), if_pos rfl]
          · obtain ⟨v, μ', e2, R2, f2, _⟩ := sign_n (RT_fr T f1) Rs hq k
            have ho : oP tx len p = (false, (wS tx len p).2) := by
              unfold oP
              by_cases k1 : (wS tx len p).1 = true
              · rw [hW, if_pos k1, if_neg (show ¬ (3 : Nat) ≤ 2 by decide), if_pos rfl, sgP, if_neg (fun z => k ⟨k1, z.2⟩)]
              · rw [if_neg k1]
            refine ⟨μ', PF_tr f1 f2, by rw [ho]; exact R2, ?_, fun h => by rw [ho] at h; exact Bool.noConfusion h⟩
            rw [mm_order, isNext_n T R (fun z => c0 z.2), sb, if_pos rfl, isNext_n T R (fun z => c1 z.2), sb, if_pos rfl, isNext_n T R (fun z => c2 z.2), sb, if_pos rfl, isNext_y T R c3, sb, if_neg (by decide), bnd_eq, e1, sb, e2, sb, bnd_eq]
            rfl
        · by_cases c4 : nxt tx len 112 112 p
          · have hW : Wd tx len p = 4 := by unfold Wd; rw [if_neg c0, if_neg c1, if_neg c2, if_neg c3, if_pos c4]
            obtain ⟨μs, e1, Rs, f1⟩ := mword (a1 := 111) (a2 := 117) (a3 := 114) (a4 := 0) T R hp c4
            have hw : wS tx len p = wdP tx len (112 :: ([111, 117] ++ ((if (114 : Int) = 0 then [] else [114]) ++ ((if (0 : Int) = 0 then [] else [0]) ++ [61])))) (true, p) := by unfold wS; rw [hW]; rfl
            rw [← hw] at Rs
            have ha1 : ∀ j, j < 8 → μs 1 j = a j := fun j hj => by rw [f1 1 j (Or.inl (by decide))]; exact ha j hj
            obtain ⟨v1, μ1, e2, f2, g1, g2, g3⟩ := num_g (RT_fr T f1) Rs hq
            have hn := nP_le (tx := tx) hq
            have hs1 : ∃ s1 : Bool × Nat, RS2 μ1 s1.1 s1.2 ∧ s1.2 ≤ len ∧ s1 = if (wS tx len p).1 = true then nP tx len (wS tx len p).2 else (false, (wS tx len p).2) := by
              cases hk : (wS tx len p).1 with
              | true => exact ⟨nP tx len (wS tx len p).2, g1 hk, hn.2, by rw [if_pos rfl]⟩
              | false => exact ⟨(false, (wS tx len p).2), g2 hk, hq, by rw [if_neg (by decide)]⟩
            obtain ⟨s1, R1, l1, d1⟩ := hs1
            have F2 := PF_tr f1 f2
            obtain ⟨v2, μ2, e3, R3, f3, _⟩ := sign_g (lo := 62) (hi := 62) (RT_fr T F2) R1 l1
            have l2 := sgP_le (tx := tx) (len := len) (lo := 62) (hi := 62) l1
            have F3 := PF_tr F2 f3
            obtain ⟨v3, μ3, e4, f4, q1, q2, q3⟩ := num_g (RT_fr T F3) R3 l2
            have ho : oP tx len p = if (sgP tx len 62 62 s1).1 = true then nP tx len (sgP tx len 62 62 s1).2 else (false, (sgP tx len 62 62 s1).2) := by
              unfold oP
              rw [d1]
              by_cases k1 : (wS tx len p).1 = true
              · rw [hW, if_pos k1, if_pos k1, if_neg (show ¬ (4 : Nat) ≤ 2 by decide), if_neg (show ¬ (4 : Nat) = 3 by decide), if_pos rfl]
                by_cases k2 : (nP tx len (wS tx len p).2).1 = true
                · rw [if_pos k2]
                  by_cases k3 : nxt tx len 62 62 (nP tx len (wS tx len p).2).2
                  · have hz : sgP tx len 62 62 (nP tx len (wS tx len p).2) = (true, (nP tx len (wS tx len p).2).2 + 1) := by rw [sgP, if_pos ⟨k2, k3⟩]
                    rw [hz, if_pos k3, if_pos rfl]
                  · have hz : sgP tx len 62 62 (nP tx len (wS tx len p).2) = (false, (nP tx len (wS tx len p).2).2) := by rw [sgP, if_neg (fun z => k3 z.2)]
                    rw [hz, if_neg k3]; rfl
                · have hz : sgP tx len 62 62 (nP tx len (wS tx len p).2) = (false, (nP tx len (wS tx len p).2).2) := by rw [sgP, if_neg (fun z => k2 z.1)]
                  rw [hz, if_neg k2]; rfl
              · have hz : sgP tx len 62 62 (false, (wS tx len p).2) = (false, (wS tx len p).2) := by rw [sgP, if_neg (fun z => Bool.noConfusion z.1)]
                rw [if_neg k1, if_neg k1, hz]; rfl
            have o0 : ∀ x, mm_order x μ = if x = 0 then some (0, μ3) else (mm_pours v1 v3 μ3).bind fun r => some (r.1, r.2) := fun x => by
              rw [mm_order, isNext_n T R (fun z => c0 z.2), sb, if_pos rfl, isNext_n T R (fun z => c1 z.2), sb, if_pos rfl, isNext_n T R (fun z => c2 z.2), sb, if_pos rfl, isNext_n T R (fun z => c3 z.2), sb, if_pos rfl, isNext_y T R c4, sb, if_neg (by decide), bnd_eq, e1, sb, e2, sb, bnd_eq, e3, sb, bnd_eq, e4, sb, bnd_eq]
              rfl
            have hR : RS2 μ3 (oP tx len p).1 (oP tx len p).2 := by
              rw [ho]
              cases hk : (sgP tx len 62 62 s1).1 with
              | true => rw [if_pos rfl]; exact q1 hk
              | false => rw [if_neg (by decide)]; exact q2 hk
            refine ⟨μ3, PF_tr F3 f4, hR, by rw [o0, if_pos rfl], fun hok => ⟨fun x hx => ?_, fun z => by rw [hW] at z; omega⟩⟩
            rw [ho] at hok
            cases k2 : (sgP tx len 62 62 s1).1 with
            | false => rw [k2, if_neg (by decide)] at hok; exact Bool.noConfusion hok
            | true =>
              rw [k2, if_pos rfl] at hok
              have hv3 := q3 k2 hok
              have hs2 : s1.1 = true ∧ (sgP tx len 62 62 s1).2 = s1.2 + 1 := by
                unfold sgP at k2 ⊢
                by_cases z : s1.1 = true ∧ nxt tx len 62 62 s1.2
                · rw [if_pos z]; exact ⟨z.1, rfl⟩
                · rw [if_neg z] at k2; exact Bool.noConfusion k2
              cases k1 : (wS tx len p).1 with
              | false =>
                rw [k1, if_neg (by decide)] at d1
                rw [d1] at hs2
                exact Bool.noConfusion hs2.1
              | true =>
                rw [k1, if_pos rfl] at d1
                rw [d1] at hs2
                have hv1 := g3 k1 hs2.1
                rw [← d1] at hs2
                rw [o0, if_neg hx, bind_eta, opM, hW, if_neg (show ¬ (4 : Nat) = 0 by decide), if_neg (show ¬ (4 : Nat) = 1 by decide), if_neg (show ¬ (4 : Nat) = 2 by decide), if_neg (show ¬ (4 : Nat) = 3 by decide), if_pos rfl, hv1, hv3, hs2.2, d1]
          · have hW : Wd tx len p = 5 := by unfold Wd; rw [if_neg c0, if_neg c1, if_neg c2, if_neg c3, if_neg c4]
            obtain ⟨μs, e1, Rs, f1, _⟩ := signs_g (a1 := 109) (a2 := 111) (a3 := 114) (a4 := 101) (s := (true, p)) T R hp
            have hw : wS tx len p = wdP tx len ([109, 111] ++ ((if (114 : Int) = 0 then [] else [114]) ++ ((if (101 : Int) = 0 then [] else [101]) ++ [61]))) (true, p) := by unfold wS; rw [hW]; rfl
            rw [← hw] at Rs
            obtain ⟨v, μ', e2, f2, g1, g2, g3⟩ := num_g (RT_fr T f1) Rs hq
            have ho : oP tx len p = if (wS tx len p).1 = true then nP tx len (wS tx len p).2 else (false, (wS tx len p).2) := by unfold oP; rw [hW, if_neg (show ¬ (5 : Nat) ≤ 2 by decide), if_neg (show ¬ (5 : Nat) = 3 by decide), if_neg (show ¬ (5 : Nat) = 4 by decide)]
            have hR : RS2 μ' (oP tx len p).1 (oP tx len p).2 := by
              rw [ho]
              cases hok : (wS tx len p).1 with
              | true => rw [if_pos rfl]; exact g1 hok
              | false => rw [if_neg (by decide)]; exact g2 hok
            have o0 : ∀ x, mm_order x μ = if x = 0 then some (0, μ') else (mm_buysMore v μ').bind fun r => some (r.1, r.2) := fun x => by
              rw [mm_order, isNext_n T R (fun z => c0 z.2), sb, if_pos rfl, isNext_n T R (fun z => c1 z.2), sb, if_pos rfl, isNext_n T R (fun z => c2 z.2), sb, if_pos rfl, isNext_n T R (fun z => c3 z.2), sb, if_pos rfl, isNext_n T R (fun z => c4 z.2), sb, if_pos rfl, e1, sb, e2, sb, bnd_eq]
              rfl
            refine ⟨μ', PF_tr f1 f2, hR, by rw [o0, if_pos rfl], fun hok => ⟨fun x hx => ?_, fun z => by rw [hW] at z; omega⟩⟩
            rw [ho] at hok
            cases k1 : (wS tx len p).1 with
            | false => rw [k1, if_neg (by decide)] at hok; exact Bool.noConfusion hok
            | true =>
              rw [k1, if_pos rfl] at hok
              rw [o0, if_neg hx, bind_eta, opM, hW, if_neg (show ¬ (5 : Nat) = 0 by decide), if_neg (show ¬ (5 : Nat) = 1 by decide), if_neg (show ¬ (5 : Nat) = 2 by decide), if_neg (show ¬ (5 : Nat) = 3 by decide), if_neg (show ¬ (5 : Nat) = 4 by decide), g3 k1 hok]
end TXT7
