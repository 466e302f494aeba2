/-! the acting loops of a text, in both -/
section TXT15
variable {tx : Nat → Int} {len : Nat}
/-- the orders of a text, acted on a row from a place on -/
noncomputable def dG (tx : Nat → Int) (len : Nat) : Nat → Nat → Int → (Nat → Int) → Int × (Nat → Int)
  | 0, _, x, a => (x, a)
  | f + 1, p, x, a => if (sOrd tx len p a).1 < 0 ∧ (sOrd tx len p a).1 ≠ -5 then ((sOrd tx len p a).1, (sOrd tx len p a).2) else if len ≤ (oP tx len p).2 then (x + 1, (sOrd tx len p a).2) else dG tx len f ((oP tx len p).2 + 1) (x + 1) (sOrd tx len p a).2
/-- what acting leaves alone, the row aside -/
def PG (μ μ' : Mem) : Prop := ∀ p q, p ≠ 1 → (p ≠ 0 ∨ (q ≠ 14 ∧ q ≠ 15 ∧ q ≠ 16 ∧ q ≠ 17)) → μ' p q = μ p q
theorem PG_tr {a b c : Mem} (h : PG a b) (g : PG b c) : PG a c := fun p q y z => by rw [g p q y z, h p q y z]
theorem PF_PG {μ μ' : Mem} (h : PF μ μ') : PG μ μ' := fun p q _ z => h p q z
theorem pl_PG (μ : Mem) (a : Nat → Int) : PG μ (pl μ a) := fun _ q y _ => pl_ne y q
theorem RT_PG {μ μ' : Mem} (h : RT tx len μ) (f : PG μ μ') : RT tx len μ' := ⟨by rw [f _ _ (by decide) (by decide)]; exact h.1, h.2.1, fun i hi => by rw [f 5 i (by decide) (Or.inl (by decide))]; exact h.2.2 i hi⟩
theorem gP_ok {f p : Nat} (h : (gP tx len (f + 1) p).1 = true) : (oP tx len p).1 = true ∧ (¬ len ≤ (oP tx len p).2 → nxt tx len 59 59 (oP tx len p).2 ∧ (gP tx len f ((oP tx len p).2 + 1)).1 = true) := by
  rw [gP] at h
  cases ho : (oP tx len p).1 with
  | false => rw [ho, if_neg (show ¬ (false = true) by decide)] at h; exact Bool.noConfusion h
  | true =>
    rw [ho, if_pos rfl] at h
    refine ⟨rfl, fun c => ?_⟩
    rw [if_neg c] at h
    by_cases d : nxt tx len 59 59 (oP tx len p).2
    · rw [if_pos d] at h; exact ⟨d, h⟩
    · rw [if_neg d] at h; exact Bool.noConfusion h
theorem mgo1_lp (f : Nat) : ∀ (p n : Nat) (x2 : Int) (μ : Mem) (a : Nat → Int) (t : Int), p ≤ len → len < p + f → f < n → 0 ≤ x2 → x2 + f ≤ 1000 → len ≤ 60 → Wf a t → 0 ≤ t → t + 25000 * ((len : Int) - p) ≤ 1000000000 → μ 1 = a → RT tx len μ → RS2 μ true p → (gP tx len f p).1 = true → ∃ μ', mm_go_14 n 1 x2 1 μ = some ((dG tx len f p x2 a).1, μ') ∧ μ' 1 = (dG tx len f p x2 a).2 ∧ PG μ μ' ∧ Wf (dG tx len f p x2 a).2 (t + 25000 * ((len : Int) - p)) := by
  induction f with
  | zero => intro p n x2 μ a t hp hf; omega
  | succ f ih =>
    intro p n x2 μ a t hp hf hn h0 hx hl w t0 ht ha T R G
    obtain ⟨n, rfl⟩ : ∃ m, n = m + 2 := ⟨n - 2, by omega⟩
    obtain ⟨g1, g2⟩ := gP_ok G
    obtain ⟨b1, b2, b3⟩ := oP_b (tx := tx) hp
    have b4 := b3 g1
    obtain ⟨μ1, f1, R1, _, ex⟩ := mord_eq (a := a) w.1 T R hp (fun j _ => by rw [ha])
    obtain ⟨e1, hG⟩ := ex g1
    have e1 := e1 1 (by decide)
    have h1 : μ1 1 = a := by rw [← ha]; funext q; exact f1 1 q (Or.inl (by decide))
    rw [mact_eq w (by omega) hl hp h1 hG] at e1
    have w' := Wf_sOrd (tx := tx) (p := p) w t0 hl hp
    have P1 : PG μ (pl μ1 (sOrd tx len p a).2) := PG_tr (PF_PG f1) (pl_PG _ _)
    have T1 := RT_PG T P1
    have R2 : RS2 (pl μ1 (sOrd tx len p a).2) true (oP tx len p).2 := by
      rw [g1] at R1
      exact ⟨by rw [pl_ne (by decide)]; exact R1.1, by rw [pl_ne (by decide)]; exact R1.2⟩
    have r15 : (pl μ1 (sOrd tx len p a).2) 0 15 = 0 := R2.2
    have r14 : (pl μ1 (sOrd tx len p a).2) 0 14 = (((oP tx len p).2 : Nat) : Int) := R2.1
    have r7 : (pl μ1 (sOrd tx len p a).2) 0 7 = (len : Int) := T1.1
    have k1 : (pl μ1 (sOrd tx len p a).2) 1 = (sOrd tx len p a).2 := pl_1 _ _
    rw [mm_go_14, if_neg (show ¬ (1 : Int) = 0 by decide), e1, sb, bnd_eq, dG]
    generalize pl μ1 (sOrd tx len p a).2 = μ2 at *
    have hgo : ¬ ((sOrd tx len p a).1 < 0 ∧ (sOrd tx len p a).1 ≠ -5) → ∃ μ', mm_go_40 (mm_go_14 (n + 1)) 1 x2 μ2 = some ((if len ≤ (oP tx len p).2 then (x2 + 1, (sOrd tx len p a).2) else dG tx len f ((oP tx len p).2 + 1) (x2 + 1) (sOrd tx len p a).2).1, μ') ∧ μ' 1 = (if len ≤ (oP tx len p).2 then (x2 + 1, (sOrd tx len p a).2) else dG tx len f ((oP tx len p).2 + 1) (x2 + 1) (sOrd tx len p a).2).2 ∧ PG μ μ' ∧ Wf (if len ≤ (oP tx len p).2 then (x2 + 1, (sOrd tx len p a).2) else dG tx len f ((oP tx len p).2 + 1) (x2 + 1) (sOrd tx len p a).2).2 (t + 25000 * ((len : Int) - p)) := fun _ => by
      rw [mm_go_40, w32_eq (by omega) (by omega), bnd_eq, if_pos r15]
      by_cases c : len ≤ (oP tx len p).2
      · rw [if_pos (show μ2 0 7 ≤ μ2 0 14 by omega), if_pos c, go_end]
        exact ⟨μ2, rfl, k1, P1, Wf_mono w' (by omega)⟩
      · obtain ⟨d, G2⟩ := g2 c
        obtain ⟨μ3, e2, R3, f2, _⟩ := sign_y T1 R2 d
        have r3 : μ3 0 15 = 0 := R3.2
        have k3 : μ3 1 = (sOrd tx len p a).2 := by rw [← k1]; funext q; exact f2 1 q (Or.inl (by decide))
        obtain ⟨μ', e3, k, f3, w3⟩ := ih ((oP tx len p).2 + 1) (n + 1) (x2 + 1) μ3 (sOrd tx len p a).2 (t + 100000) (by omega) (by omega) (by omega) (by omega) (by omega) hl w' (by omega) (by omega) k3 (RT_PG T1 (PF_PG f2)) R3 G2
        rw [if_neg (show ¬ μ2 0 7 ≤ μ2 0 14 by omega), if_neg c, mm_go_66, if_neg (show ¬ (1 : Int) = 0 by decide), e2, sb, bnd_eq, if_pos r3, mm_go_93, mm_go_94, e3]
        exact ⟨μ', rfl, k, PG_tr P1 (PG_tr (PF_PG f2) f3), Wf_mono w3 (by omega)⟩
    by_cases c : (sOrd tx len p a).1 < 0 ∧ (sOrd tx len p a).1 ≠ -5
    · rw [if_neg (show ¬ 0 ≤ (sOrd tx len p a).1 by omega), if_neg c.2, if_pos c, mm_go_37]
      exact ⟨μ2, rfl, k1, P1, Wf_mono w' (by omega)⟩
    · rw [if_neg c]
      by_cases c2 : 0 ≤ (sOrd tx len p a).1
      · rw [if_pos c2]; exact hgo c
      · rw [if_neg c2, if_pos (by omega)]; exact hgo c
end TXT15
