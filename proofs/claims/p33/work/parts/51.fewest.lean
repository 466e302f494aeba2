/-! makes and fewest, in both -/
theorem SM_0 (g : Nat → Int) (i : Nat) : SM g i 0 = 0 := by
  induction i with
  | zero => rfl
  | succ i ih =>
    have := tw_pos i
    rw [SM, if_neg (by omega)]
    exact ih
theorem spread_X {a : Nat → Int} {ν : Mem} {t : Int} (w : Wf a t) (S : SRel a ν 10) (L : LK ν (rf a) (rn a)) : ∃ ν', xc_spread ν = some ν' ∧ ν' 66 2 = (tw (a 8).toNat : Nat) ∧ (∀ m, m < tw (a 8).toNat → ν' 67 m = tau (sp a) (SM (fun k => a (10 + 2 * k)) (a 8).toNat m)) ∧ LK ν' (rf a) (rn a) ∧ QF ν ν' := by
  have w8 := w.2.1
  have fr1 : ∀ p q, p ≠ 66 → p ≠ 67 → mst (mst ν 67 0 0) 66 2 1 p q = ν p q := fun p q h6 h7 => by rw [mst_pl h6, mst_pl h7]
  have L1 : LK (mst (mst ν 67 0 0) 66 2 1) (rf a) (rn a) := LK_fr L (fun q => fr1 _ _ (by decide) (by decide)) (fun q => fr1 _ _ (by decide) (by decide)) (fun q => fr1 _ _ (by decide) (by decide)) (fun q => fr1 _ _ (by decide) (by decide)) (fun q => fr1 _ _ (by decide) (by decide))
  obtain ⟨ν', e, h66, r, f⟩ := xsp14_lp (k0 := rn a) (r := rf a) w (a 8).toNat 0 FU (mst (mst ν 67 0 0) 66 2 1) (by omega) (by have := FU_ge; omega) (SRel_fr S (fun p q _ _ => fr1 p q (by omega) (by omega))) L1 (by rw [mst_same]; rfl) (fun m hm => by
    rw [tw] at hm
    rw [show m = 0 by omega, SM, mst_pl (by decide), mst_same])
  rw [show ((0 : Nat) : Int) = 0 from rfl] at e
  have F : ∀ p q, p ≠ 66 → p ≠ 67 → ν' p q = ν p q := fun p q h6 h7 => by rw [f p q h6 h7, fr1 p q h6 h7]
  refine ⟨ν', ?_, h66, fun m hm => ?_, LK_fr L (fun q => F _ _ (by decide) (by decide)) (fun q => F _ _ (by decide) (by decide)) (fun q => F _ _ (by decide) (by decide)) (fun q => F _ _ (by decide) (by decide)) (fun q => F _ _ (by decide) (by decide)), QF_of (fun p q hp => F p q (by omega) (by omega))⟩
  · rw [xc_spread, n16_id (x := 0) (by omega), aput_eq (by omega) (by omega), sb, bnd_eq]
    exact e
  · rw [r m hm]
    exact SM_tau (S := sp a) (g := fun k => a (10 + 2 * k)) L.2.2.2.1 (sp_sg a) L.2.2.2.2.1 (a 8).toNat m (fun k hk => (w.2.2.1 k (by omega)).1)
/-- the fewest -/
noncomputable def fwF (f : Nat → Int) (v : Int) : Nat → Nat → Int → Int
  | 0, _, c => c
  | j + 1, k, c => fwF f v j (k + 1) (if f k = v then (if c = -5 then (k : Int) else if popF 12 c.toNat ≤ popF 12 k then c else (k : Int)) else c)
theorem fwF_b (f : Nat → Int) (v : Int) (j : Nat) : ∀ (k : Nat) (c : Int), (c = -5 ∨ (0 ≤ c ∧ c < k)) → (fwF f v j k c = -5 ∨ (0 ≤ fwF f v j k c ∧ fwF f v j k c < ((k + j : Nat) : Int))) := by
  induction j with
  | zero => intro k c h; rw [fwF]; exact h.imp id (fun z => ⟨z.1, by omega⟩)
  | succ j ih =>
    intro k c h
    rw [fwF, show k + (j + 1) = k + 1 + j by omega]
    refine ih (k + 1) _ ?_
    split
    · split
      · right; omega
      · split
        · rcases h with h | h
          · exact Or.inl h
          · right; omega
        · right; omega
    · rcases h with h | h
      · exact Or.inl h
      · right; omega
theorem xfw_lp {f : Nat → Int} {N : Nat} {v : Int} (hN : N ≤ 4096) {μ : Mem} (h66 : μ 66 2 = (N : Nat)) (h67 : ∀ m, m < N → μ 67 m = f m) (j : Nat) : ∀ (k n : Nat) (c : Int), k + j = N → j < n → (c = -5 ∨ (0 ≤ c ∧ c < k)) → xc_smallestLike_9 n v c (if c = -5 then 13 else popF 12 c.toNat) k μ = some (fwF f v j k c) := by
  induction j with
  | zero =>
    intro k n c hk hn hc
    obtain ⟨n, rfl⟩ : ∃ m, n = m + 1 := ⟨n - 1, by omega⟩
    rw [xc_smallestLike_9, h66, if_pos (by omega), xc_smallestLike_53, fwF]
  | succ j ih =>
    intro k n c hk hn hc
    obtain ⟨n, rfl⟩ : ∃ m, n = m + 1 := ⟨n - 1, by omega⟩
    have e3 : w32 ((k : Int) + 1) = ((k + 1 : Nat) : Int) := by rw [w32_eq (by omega) (by omega)]; omega
    have pb := popF_b 12 k
    have ik := ih (k + 1) n (k : Int) (by omega) (by omega) (by omega)
    rw [if_neg (show ¬ (k : Int) = -5 by omega), Int.toNat_natCast] at ik
    have ic := ih (k + 1) n c (by omega) (by omega) (by omega)
    rw [xc_smallestLike_9, h66, if_neg (by omega), aget_eq (by omega) (by omega), sb, Int.toNat_natCast, h67 k (by omega), fwF]
    by_cases d : f k = v
    · rw [if_pos d, if_pos d, bitc_eq (m := k) (by omega), sb]
      by_cases c5 : c = -5
      · rw [if_pos c5, if_pos c5, if_neg (by omega), sb, xc_smallestLike_47, bnd_eq, e3]
        exact ik
      · rw [if_neg c5] at ic ⊢
        rw [if_neg c5]
        by_cases d2 : popF 12 c.toNat ≤ popF 12 k
        · rw [if_pos d2, if_pos d2, xc_smallestLike_47, bnd_eq, e3]
          exact ic
        · rw [if_neg d2, if_neg d2, sb, xc_smallestLike_47, bnd_eq, e3]
          exact ik
    · rw [if_neg d, if_neg d, xc_smallestLike_47, bnd_eq, e3]
      exact ic