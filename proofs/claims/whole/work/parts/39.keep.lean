/-! keeping, restoring, undoing, typing -/
theorem bv16 (n : Nat) (h : n < 65536) : (BitVec.setWidth 32 (BitVec.setWidth 16 (BitVec.ofNat 32 n))).toInt = (n : Int) := by
  have e : (BitVec.setWidth 32 (BitVec.setWidth 16 (BitVec.ofNat 32 n))).toNat = n := by
    rw [BitVec.toNat_setWidth, BitVec.toNat_setWidth, BitVec.toNat_ofNat]
    omega
  rw [BitVec.toInt_eq_toNat_of_lt (by rw [e]; omega), e]
theorem ncc_id {x : Int} (h0 : 0 ≤ x) (h1 : x < 65536) : ncc x = x := by
  rw [ncc_def]
  obtain ⟨n, rfl⟩ := Int.eq_ofNat_of_zero_le h0
  have hn : n < 65536 := by omega
  rw [Int32.ofInt_eq_ofNat, ← bv16 n hn]
  rfl
theorem LD_fr {μ μ' : Mem} (h : LD μ) (e1 : μ' 1 = μ 1) (e6 : ∀ q, μ' 6 q = μ 6 q) (e7 : ∀ q, μ' 7 q = μ 7 q) (e8 : μ' 0 8 = μ 0 8) (e9 : μ' 0 9 = μ 0 9) (e10 : μ' 10 0 = μ 10 0) : LD μ' := by
  unfold LD laidM at *
  rw [e1, e8, e9, e10]
  obtain ⟨h, hz⟩ := h
  refine ⟨?_, hz⟩
  rcases h with h | ⟨h, h2, h3, h4⟩
  · exact Or.inl h
  · exact Or.inr ⟨h, h2, fun m hm => by rw [e7]; exact h3 m hm, fun m hm => by rw [e6]; exact h4 m hm⟩
theorem sim_keep : SIM mm_keep xx_keep := by
  intro μ ν t h0 ht M X
  obtain ⟨m1, m2, m3, m4, m5, m6, m7⟩ := M
  obtain ⟨h1, h2, h3, h4, h5, h6, h7, h8, h9⟩ := X
  obtain ⟨μ1, e, r, f⟩ := keep_lp 60 0 FU μ (by omega) (by have := FU_ge; omega) (fun q hq => by omega)
  rw [show ((0 : Nat) : Int) = 0 from rfl] at e
  obtain ⟨ν1, e4, c, g, g2⟩ := xcopy_eq (t := 17) (o := 10) (by omega) ν
  rw [mm_keep, e, mm_keep_26, bnd_eq, xx_keep, e4, sb, bnd_eq, mst_pl (by decide), f _ _ (by decide), mst_pl (by decide), g _ _ (by omega), h1.1]
  have g' : ∀ p q, (p < 17 ∨ 23 < p) → p ≠ 0 → mst ν1 0 4 1 p q = ν p q := fun p q hp h0 => by rw [mst_pl h0, g p q (by omega)]
  have f' : ∀ p q, p ≠ 4 → p ≠ 0 → mst μ1 0 5 1 p q = μ p q := fun p q hp h0 => by rw [mst_pl h0, f p q hp]
  have f0 : ∀ q, q ≠ 5 → mst μ1 0 5 1 0 q = μ 0 q := fun q hq => by rw [mst_ix hq, f _ _ (by decide)]
  have g0 : ∀ q, q ≠ 4 → mst ν1 0 4 1 0 q = ν 0 q := fun q hq => by rw [mst_ix hq, g _ _ (by omega)]
  have e1 : mst μ1 0 5 1 1 = μ 1 := by funext q; exact f' _ _ (by decide) (by decide)
  have kk : ∀ i, hr (mst μ1 0 5 1) i = hr μ i := fun i => by funext j; unfold hr; exact f' _ _ (by decide) (by decide)
  have k4 : ∀ j, j < 60 → mst μ1 0 5 1 4 j = μ 1 j := fun j hj => by rw [mst_pl (by decide), r j hj]
  refine ⟨_, _, _, rfl, rfl, ⟨by rw [e1]; exact Wf_mono m1 (by omega), by rw [f0 _ (by decide)]; exact m2, fun i hi => ?_, Or.inr ⟨mst_same _ _ _ _, Wf_cong (Wf_mono m1 (by omega)) k4⟩, by rw [f0 _ (by decide)]; exact m5, fun i hi => ?_, LD_fr m7 e1 (fun q => f' _ _ (by decide) (by decide)) (fun q => f' _ _ (by decide) (by decide)) (f0 _ (by decide)) (f0 _ (by decide)) (f' _ _ (by decide) (by decide))⟩, ⟨?_, ?_, ?_, ?_, fun i hi => ?_, ?_, fun _ => ?_, ?_, fun i hi => ?_⟩⟩
  · rw [f0 _ (by decide)] at hi; rw [kk]; exact Wf_mono (m3 i hi) (by omega)
  · rw [f0 _ (by decide)] at hi; rw [f' _ _ (by decide) (by decide)]; exact m6 i hi
  · rw [e1]; exact SRel_fr h1 (fun p q _ _ => g' p q (by omega) (by omega))
  · obtain ⟨r, k, L⟩ := h2
    exact ⟨r, k, LK_fr L (fun q => g' _ _ (by omega) (by omega)) (fun q => g' _ _ (by omega) (by omega)) (fun q => g' _ _ (by omega) (by omega)) (fun q => g' _ _ (by omega) (by omega)) (fun q => g' _ _ (by omega) (by omega))⟩
  · rw [g' _ _ (by omega) (by omega)]; exact h3
  · rw [g' _ _ (by omega) (by omega), f0 _ (by decide)]; exact h4
  · rw [f0 _ (by decide)] at hi ⊢
    have hs := h5 i hi
    unfold slot at hs ⊢
    rw [g' 24 1 (by omega) (by omega), kk]
    exact SRel_fr hs (fun p q _ _ => g' p q (by omega) (by omega))
  · rw [mst_same, mst_same]
  · refine SRel_cong ?_ k4 (wf3 m1)
    exact SRel_fr (c _ (wf3 m1) h1) (fun p q _ _ => mst_pl (by omega))
  · rw [g' _ _ (by omega) (by omega), f0 _ (by decide)]; exact h8
  · rw [f0 _ (by decide)] at hi
    rw [g' _ _ (by omega) (by omega), f' _ _ (by decide) (by decide)]; exact h9 i hi
theorem sim_restore : SIM mm_restore xx_restore := by
  intro μ ν t h0 ht M X
  rw [mm_restore, xx_restore, X.2.2.2.2.2.1]
  by_cases c : μ 0 5 = 0
  · rw [if_pos c, if_pos c]
    exact ⟨_, _, _, rfl, rfl, MI_mono M (by omega), X⟩
  · have k1 : μ 0 5 = 1 ∧ Wf (μ 4) t := M.2.2.2.1.resolve_left c
    rw [if_neg c, if_neg c]
    obtain ⟨σ, s1, s2, s3⟩ := aside_eq μ
    obtain ⟨ρ, r1, r2, r3⟩ := rest_lp 60 0 FU σ (by omega) (by have := FU_ge; omega) (fun q hq => by omega)
    rw [show ((0 : Nat) : Int) = 0 from rfl] at r1
    have ρe : ρ = pl σ (ρ 1) := by
      funext p q
      unfold pl
      by_cases hp : p = 1
      · rw [if_pos hp, hp]
      · rw [if_neg hp, r3 p q hp]
    have rk : ∀ j, j < 60 → ρ 1 j = μ 4 j := fun j hj => by rw [r2 j hj, s3 _ _ (by decide)]
    have wr : Wf (ρ 1) t := Wf_cong k1.2 rk
    obtain ⟨μ1, μ', ν1, ν2, ν', e1, h1, e3, e4, e5, e6, M', X', _, _⟩ := ord_pair2 (u := t + 1500000) (a' := ρ 1) (v := ρ 1 8) (v' := ρ 1 8) (Fx := fun τ => (xs_copyFrom 10 17 τ).bind fun μ2 => some (μ2 10 2, μ2)) M X
      (fun τ hτ T g => by
        obtain ⟨τ', e, cc, f, _⟩ := xcopy_eq (t := 10) (o := 17) (by omega) τ
        have S : SRel (μ 4) τ 17 := SRel_fr (X.2.2.2.2.2.2.1 k1.1) (fun p q _ _ => g p q (by omega))
        have S' := SRel_cong (cc _ (wf3 k1.2) S) rk (wf3 k1.2)
        have ff : fr τ τ' := fun p q hp => f p q (by omega)
        refine ⟨τ', ?_, S', fr_XF ff, TI_fr ff T⟩
        rw [e, sb, S'.1]) Iff.rfl (fun h => absurd h (by have := wr.2.1; omega)) (Wf_mono wr (by omega)) (by omega)
    have hσ : μ1 = σ := by rw [s1] at e1; exact (Option.some.inj e1).symm
    subst hσ
    rw [s1, sb, r1, mm_restore_40]
    rw [← ρe] at e3
    rw [e3, sb, e4, sb]
    cases hp : xs_copyFrom 10 17 ν1 with
    | none => rw [hp] at e5; cases e5
    | some p =>
      rw [hp, sb] at e5
      have e5' := Option.some.inj e5
      rw [sb]
      have q1 : p 10 2 = ρ 1 8 := congrArg Prod.fst e5'
      have q2 : p = ν2 := congrArg Prod.snd e5'
      rw [q1, q2, e6, sb]
      exact ⟨_, _, _, rfl, rfl, M', X'⟩
theorem undo_lp {N : Nat} (hN : N ≤ 3) (j : Nat) : ∀ (k n : Nat) (μ : Mem), k + j = 60 → j < n → μ 0 3 = (N : Int) → (∀ q, q < k → μ 1 q = μ 3 (60 * N + q)) → ∃ μ', mm_undo_27 n k μ = mm_undo_59 μ' ∧ (∀ q, q < 60 → μ' 1 q = μ 3 (60 * N + q)) ∧ ∀ p q, p ≠ 1 → μ' p q = μ p q := by
  induction j with
  | zero =>
    intro k n μ hk hn h0 h
    obtain ⟨n, rfl⟩ : ∃ m, n = m + 1 := ⟨n - 1, by omega⟩
    rw [mm_undo_27, if_pos (by omega)]
    exact ⟨μ, rfl, fun q hq => h q (by omega), fun _ _ _ => rfl⟩
  | succ j ih =>
    intro k n μ hk hn h0 h
    obtain ⟨n, rfl⟩ : ∃ m, n = m + 1 := ⟨n - 1, by omega⟩
    have e3 : w32 ((k : Int) + 1) = ((k + 1 : Nat) : Int) := by rw [w32_eq (by omega) (by omega)]; omega
    have e4 : w32 (w32 (60 * (N : Int)) + (k : Int)) = ((60 * N + k : Nat) : Int) := by rw [w32_eq (x := 60 * (N : Int)) (by omega) (by omega), w32_eq (by omega) (by omega)]; omega
    rw [mm_undo_27, if_neg (by omega), h0, e4, aget_eq (by omega) (by omega), sb, aput_eq (by omega) (by omega), sb, bnd_eq, e3, Int.toNat_natCast, Int.toNat_natCast]
    obtain ⟨μ', e, r, f⟩ := ih (k + 1) n (mst μ 1 k (μ 3 (60 * N + k))) (by omega) (by omega) (by rw [mst_pl (by decide)]; exact h0) (fun q hq => by
      rw [mst_pl (k := 1) (a := 3) (by decide)]
      by_cases c : q = k
      · subst c; rw [mst_same]
      · rw [mst_ix (by omega)]; exact h q (by omega))
    exact ⟨μ', e, fun q hq => by rw [r q hq, mst_pl (by decide)], fun p q hp => by rw [f p q hp, mst_pl hp]⟩
theorem sim_undo : SIM mm_undo xx_undo := by
  intro μ ν t h0 ht M X
  rw [mm_undo, xx_undo, xh_stepBack, X.2.2.2.1]
  by_cases c : μ 0 3 = 0
  · rw [if_pos c, if_pos c, sb]
    exact ⟨_, _, _, rfl, rfl, MI_mono M (by omega), X⟩
  · obtain ⟨m1, m2, m3, m4, m5, m6, m7⟩ := M
    obtain ⟨h1, h2, h3, h4, h5, h6, h7, h8, h9⟩ := X
    obtain ⟨N, hN⟩ : ∃ N : Nat, μ 0 3 = ((N + 1 : Nat) : Int) := ⟨(μ 0 3).toNat - 1, by omega⟩
    rw [if_neg c, if_neg c, bnd_eq, bnd_eq, w32_eq (by omega) (by omega)]
    obtain ⟨μ', e, r, f⟩ := undo_lp (N := N) (by omega) 60 0 FU (mst (mst μ 0 3 (μ 0 3 - 1)) 0 8 0) (by omega) (by have := FU_ge; omega) (by rw [mst_ix (by decide), mst_same]; omega) (fun q hq => by omega)
    rw [show ((0 : Nat) : Int) = 0 from rfl] at e
    rw [e, mm_undo_59, bnd_eq, w32_eq (x := ν 24 1 + 4) (by omega) (by omega), show Int.tmod (ν 24 1 + 4) 5 = (ν 24 1 + 4) % 5 from Int.tmod_eq_emod_of_nonneg (by omega), bnd_eq, mst_ix (by decide), h4, w32_eq (by omega) (by omega)]
    generalize hν : mst (mst ν 24 1 ((ν 24 1 + 4) % 5)) 24 2 (μ 0 3 - 1) = ν1
    have b1 : ν1 24 1 = (ν 24 1 + 4) % 5 := by rw [← hν, mst_ix (by decide), mst_same]
    have b2 : ν1 24 2 = μ 0 3 - 1 := by rw [← hν, mst_same]
    have b3 : ∀ p q, p ≠ 24 → ν1 p q = ν p q := fun p q hp => by rw [← hν, mst_pl hp, mst_pl hp]
    obtain ⟨ν2, e4, cc, g, g2⟩ := xcopy_eq (t := 10) (o := 26 + 7 * (ν1 24 1).toNat) (by omega) ν1
    rw [xh_takeBack, if_pos (by omega), e4, sb]
    have g' : ∀ p q, (p < 10 ∨ 16 < p) → p ≠ 24 → ν2 p q = ν p q := fun p q hp h => by rw [g p q (by omega), b3 p q h]
    have f' : ∀ p q, p ≠ 1 → p ≠ 0 → μ' p q = μ p q := fun p q hp h => by rw [f p q hp, mst_pl h, mst_pl h]
    have f0 : ∀ q, q ≠ 3 → q ≠ 8 → μ' 0 q = μ 0 q := fun q h3 h8 => by rw [f _ _ (by decide), mst_ix h8, mst_ix h3]
    have f3 : μ' 0 3 = μ 0 3 - 1 := by rw [f _ _ (by decide), mst_ix (by decide), mst_same]
    have kk : ∀ i, hr μ' i = hr μ i := fun i => by funext j; unfold hr; exact f' _ _ (by decide) (by decide)
    have r1 : ∀ j, j < 60 → μ' 1 j = hr μ N j := fun j hj => by rw [r j hj, mst_pl (by decide), mst_pl (by decide)]; rfl
    have wN := m3 N (by omega)
    have h44 : μ' 4 = μ 4 := by funext j; exact f' _ _ (by decide) (by decide)
    have g24 : ν2 24 2 = μ 0 3 - 1 := by rw [g _ _ (by omega), b2]
    rw [g24, f3, sb]
    refine ⟨_, μ', ν2, rfl, rfl, ⟨Wf_cong (Wf_mono wN (by omega)) r1, by omega, fun i hi => ?_, ?_, by rw [f0 _ (by decide) (by decide)]; exact m5, fun i hi => ?_, Or.inl ?_, by rw [f' _ _ (by decide) (by decide)]; exact m7.2⟩, ⟨?_, ?_, ?_, ?_, fun i hi => ?_, ?_, fun hh => ?_, ?_, fun i hi => ?_⟩⟩
    · rw [f3] at hi; rw [kk]; exact Wf_mono (m3 i (by omega)) (by omega)
    · rw [f0 _ (by decide) (by decide), h44]; exact m4.imp id (fun z => ⟨z.1, Wf_mono z.2 (by omega)⟩)
    · rw [f0 _ (by decide) (by decide)] at hi; rw [f' _ _ (by decide) (by decide)]; exact m6 i hi
    · rw [f _ _ (by decide), mst_same]
    · refine SRel_cong (cc _ (wf3 wN) ?_) r1 (wf3 wN)
      have hs := h5 N (by omega)
      unfold slot at hs
      rw [show (ν 24 1 + 5 - μ 0 3 + (N : Int)) % 5 = ν1 24 1 by omega] at hs
      exact SRel_fr hs (fun p q _ _ => b3 p q (by omega))
    · obtain ⟨r, k, L⟩ := h2
      exact ⟨r, k, LK_fr L (fun q => g' _ _ (by omega) (by omega)) (fun q => g' _ _ (by omega) (by omega)) (fun q => g' _ _ (by omega) (by omega)) (fun q => g' _ _ (by omega) (by omega)) (fun q => g' _ _ (by omega) (by omega))⟩
    · rw [g _ _ (by omega), b1]; omega
    · rw [g24, f3]
    · rw [f3] at hi ⊢
      have hs := h5 i (by omega)
      unfold slot at hs ⊢
      rw [g 24 1 (by omega), b1, kk, show ((ν 24 1 + 4) % 5 + 5 - (μ 0 3 - 1) + (i : Int)) % 5 = (ν 24 1 + 5 - μ 0 3 + (i : Int)) % 5 by omega]
      exact SRel_fr hs (fun p q _ _ => g' p q (by omega) (by omega))
    · rw [g' _ _ (by omega) (by omega), f0 _ (by decide) (by decide)]; exact h6
    · rw [f0 _ (by decide) (by decide)] at hh
      rw [h44]
      exact SRel_fr (h7 hh) (fun p q _ _ => g' p q (by omega) (by omega))
    · rw [g' _ _ (by omega) (by omega), f0 _ (by decide) (by decide)]; exact h8
    · rw [f0 _ (by decide) (by decide)] at hi
      rw [g' _ _ (by omega) (by omega), f' _ _ (by decide) (by decide)]; exact h9 i hi
