/-! the class's copies and history; the two memories agree -/
theorem mcp_in {μ : Mem} {k0 k1 n q : Nat} (h : q < n) : mcp μ k0 k1 0 0 n k1 q = μ k0 q := by
  unfold mcp
  rw [if_pos ⟨rfl, Nat.zero_le _, by omega⟩, Nat.zero_add, Nat.sub_zero]
theorem mcp_pl {μ : Mem} {k0 k1 n p q : Nat} (h : p ≠ k1) : mcp μ k0 k1 0 0 n p q = μ p q := by
  unfold mcp
  rw [if_neg (fun z => h z.1)]
theorem xcopy_eq {t o : Nat} (h : t + 6 < o ∨ o + 6 < t) (μ : Mem) : ∃ μ', xs_copyFrom t o μ = some μ' ∧ (∀ a : Nat → Int, (a 8 ≤ 12 ∧ a 34 ≤ 8 ∧ a 43 ≤ 8) → SRel a μ o → SRel a μ' t) ∧ (∀ p q, (p < t ∨ t + 6 < p) → μ' p q = μ p q) ∧ μ' t 2 = μ o 2 := by
  refine ⟨_, rfl, fun a w r => ?_, fun p q hp => ?_, ?_⟩
  · obtain ⟨h1, h2, h3, h4, h5, h6, h7, h8, h9⟩ := r
    refine ⟨?_, ?_, ?_, ?_, fun k hk => ⟨?_, ?_⟩, fun k hk => ?_, fun k hk => ?_, fun k hk => ?_, fun k hk => ?_⟩
    · simp (disch := omega) only [stp, mcp_pl, mst_pl, mst_ix, mst_same]; exact h1
    · simp (disch := omega) only [stp, mcp_pl, mst_pl, mst_ix, mst_same]; exact h2
    · simp (disch := omega) only [stp, mcp_pl, mst_pl, mst_ix, mst_same]; exact h3
    · simp (disch := omega) only [stp, mcp_pl, mst_pl, mst_ix, mst_same]; exact h4
    · simp (disch := omega) only [stp, mcp_pl, mcp_in, mst_pl, mst_ix, mst_same]; exact (h5 k hk).1
    · simp (disch := omega) only [stp, mcp_pl, mcp_in, mst_pl, mst_ix, mst_same]; exact (h5 k hk).2
    · simp (disch := omega) only [stp, mcp_pl, mcp_in, mst_pl, mst_ix, mst_same]; exact h6 k hk
    · simp (disch := omega) only [stp, mcp_pl, mcp_in, mst_pl, mst_ix, mst_same]; exact h7 k hk
    · simp (disch := omega) only [stp, mcp_pl, mcp_in, mst_pl, mst_ix, mst_same]; exact h8 k hk
    · simp (disch := omega) only [stp, mcp_pl, mcp_in, mst_pl, mst_ix, mst_same]; exact h9 k hk
  · simp (disch := omega) only [stp, mcp_pl, mst_pl]
  · simp (disch := omega) only [stp, mcp_pl, mst_pl, mst_ix, mst_same]
/-- the reference's memory is well -/
def LD (μ : Mem) : Prop := (μ 0 8 = 0 ∨ (μ 0 8 = 1 ∧ laidM μ (fun j => μ 1 (35 + j)) (μ 1 34).toNat)) ∧ μ 10 0 = 0
def MI (μ : Mem) (t : Int) : Prop := Wf (μ 1) t ∧ (0 ≤ μ 0 3 ∧ μ 0 3 ≤ 4) ∧ (∀ i : Nat, (i : Int) < μ 0 3 → Wf (hr μ i) t) ∧ (μ 0 5 = 0 ∨ (μ 0 5 = 1 ∧ Wf (μ 4) t)) ∧ (0 ≤ μ 0 7 ∧ μ 0 7 ≤ 60) ∧ (∀ i : Nat, (i : Int) < μ 0 7 → 0 ≤ μ 5 i ∧ μ 5 i < 65536) ∧ LD μ
/-- where the class keeps the row i -/
def slot (ν : Mem) (N : Int) (i : Nat) : Nat := 26 + 7 * ((ν 24 1 + 5 - N + i) % 5).toNat
def XI (ν μ : Mem) : Prop := SRel (μ 1) ν 10 ∧ TI ν ∧ (0 ≤ ν 24 1 ∧ ν 24 1 < 5) ∧ ν 24 2 = μ 0 3 ∧ (∀ i : Nat, (i : Int) < μ 0 3 → SRel (hr μ i) ν (slot ν (μ 0 3) i)) ∧ ν 0 4 = μ 0 5 ∧ (μ 0 5 = 1 → SRel (μ 4) ν 17) ∧ ν 63 1 = μ 0 7 ∧ ∀ i : Nat, (i : Int) < μ 0 7 → ν 64 i = μ 5 i
/-- what an order of the class leaves alone -/
def XF (ν ν' : Mem) : Prop := (∀ q, ν' 0 q = ν 0 q) ∧ (∀ p q, 17 ≤ p → p ≤ 61 → ν' p q = ν p q) ∧ ν' 63 1 = ν 63 1 ∧ ∀ q, ν' 64 q = ν 64 q
theorem XF_rf (ν : Mem) : XF ν ν := ⟨fun _ => rfl, fun _ _ _ _ => rfl, rfl, fun _ => rfl⟩
theorem XF_tr {a b c : Mem} (h : XF a b) (g : XF b c) : XF a c := ⟨fun q => by rw [g.1, h.1], fun p q h1 h2 => by rw [g.2.1 p q h1 h2, h.2.1 p q h1 h2], by rw [g.2.2.1, h.2.2.1], fun q => by rw [g.2.2.2, h.2.2.2]⟩
theorem frb_XF {ν ν' : Mem} (h : frb ν ν') : XF ν ν' := ⟨fun q => h _ _ (by omega), fun p q h1 h2 => h _ _ (by omega), h _ _ (by omega), fun q => h _ _ (by omega)⟩
theorem fr_XF {ν ν' : Mem} (h : fr ν ν') : XF ν ν' := frb_XF (fr_frb h)
theorem TI_frb {ν ν' : Mem} (h : frb ν ν') (T : TI ν) : TI ν' := by
  obtain ⟨r, k, L⟩ := T
  exact ⟨r, k, LK_fr L (fun q => h _ _ (by omega)) (fun q => h _ _ (by omega)) (fun q => h _ _ (by omega)) (fun q => h _ _ (by omega)) (fun q => h _ _ (by omega))⟩
theorem TI_fr {ν ν' : Mem} (h : fr ν ν') (T : TI ν) : TI ν' := TI_frb (fr_frb h) T
/-- the shop's row goes to the history's next place; nothing known changes -/
theorem prep_eq {ν μ : Mem} {t : Int} (X : XI ν μ) (M : MI μ t) : ∃ ν', xh_prepare ν = some ν' ∧ XI ν' μ ∧ SRel (μ 1) ν' (26 + 7 * (ν' 24 1).toNat) ∧ (∀ p q, (p < 26 ∨ 60 < p) → ν' p q = ν p q) := by
  obtain ⟨h1, h2, h3, h4, h5, h6, h7, h8, h9⟩ := X
  obtain ⟨ν', e, c, f, _⟩ := xcopy_eq (t := 26 + 7 * (ν 24 1).toNat) (o := 10) (by omega) ν
  have g : ∀ p q, (p < 26 ∨ 60 < p) → ν' p q = ν p q := fun p q hp => f p q (by omega)
  have h241 : ν' 24 1 = ν 24 1 := g _ _ (by omega)
  rw [xh_prepare, if_pos h3, e]
  refine ⟨ν', rfl, ⟨SRel_fr h1 (fun p q _ _ => g p q (by omega)), ?_, by rw [h241]; exact h3, by rw [g _ _ (by omega)]; exact h4, fun i hi => ?_, by rw [g _ _ (by omega)]; exact h6, fun hk => SRel_fr (h7 hk) (fun p q _ _ => g p q (by omega)), by rw [g _ _ (by omega)]; exact h8, fun i hi => by rw [g _ _ (by omega)]; exact h9 i hi⟩, ?_, g⟩
  · obtain ⟨r, k, L⟩ := h2
    exact ⟨r, k, LK_fr L (fun q => g _ _ (by omega)) (fun q => g _ _ (by omega)) (fun q => g _ _ (by omega)) (fun q => g _ _ (by omega)) (fun q => g _ _ (by omega))⟩
  · have hm := M.2.1
    have hs := h5 i hi
    unfold slot at hs ⊢
    rw [h241]
    refine SRel_fr hs (fun p q p1 p2 => f p q ?_)
    omega
  · rw [h241]; exact c _ (wf3 M.1) h1
/-- an order that failed, or a question: everything stays -/
theorem stay_XI {ν ν' μ μ' : Mem} (X : XI ν μ) (F : XF ν ν') (S : SRel (μ' 1) ν' 10) (T : TI ν') (e0 : ∀ q, q ≠ 8 → q ≠ 9 → μ' 0 q = μ 0 q) (e3 : ∀ q, μ' 3 q = μ 3 q) (e4 : ∀ q, μ' 4 q = μ 4 q) (e5 : ∀ q, μ' 5 q = μ 5 q) : XI ν' μ' := by
  obtain ⟨h1, h2, h3, h4, h5, h6, h7, h8, h9⟩ := X
  have a3 : μ' 0 3 = μ 0 3 := e0 3 (by decide) (by decide)
  have a5 : μ' 0 5 = μ 0 5 := e0 5 (by decide) (by decide)
  have a7 : μ' 0 7 = μ 0 7 := e0 7 (by decide) (by decide)
  have b1 : ν' 24 1 = ν 24 1 := F.2.1 _ _ (by omega) (by omega)
  have hk : ∀ i, hr μ' i = hr μ i := fun i => by funext j; unfold hr; exact e3 _
  have h44 : μ' 4 = μ 4 := by funext j; exact e4 j
  refine ⟨S, T, by rw [b1]; exact h3, by rw [F.2.1 _ _ (by omega) (by omega), a3]; exact h4, fun i hi => ?_, by rw [F.1, a5]; exact h6, fun hh => ?_, by rw [F.2.2.1, a7]; exact h8, fun i hi => by rw [F.2.2.2, e5]; exact h9 i (by rw [← a7]; exact hi)⟩
  · rw [a3] at hi ⊢
    have hs := h5 i hi
    unfold slot at hs ⊢
    rw [b1, hk]
    exact SRel_fr hs (fun p q p1 p2 => F.2.1 p q (by omega) (by omega))
  · rw [h44]
    rw [a5] at hh
    exact SRel_fr (h7 hh) (fun p q p1 p2 => F.2.1 p q (by omega) (by omega))
/-- an order that stands: the history grows -/
theorem push_XI {ν ν' μ μ' : Mem} {t : Int} {a' : Nat → Int} (X : XI ν μ) (M : MI μ t) (hrow : SRel (μ 1) ν (26 + 7 * (ν 24 1).toNat)) (F : XF ν ν') (S : SRel a' ν' 10) (T : TI ν') (P : PU μ μ' (μ 1) a') : ∃ ν'', xh_record ν' = some ν'' ∧ XI ν'' μ' := by
  obtain ⟨h1, h2, h3, h4, h5, h6, h7, h8, h9⟩ := X
  obtain ⟨p1, p2, ⟨N, K, k3, kN, n3, n3', q1, q2⟩, p4, p5⟩ := P
  have a5 : μ' 0 5 = μ 0 5 := p5 5 (by decide) (by decide)
  have a7 : μ' 0 7 = μ 0 7 := p5 7 (by decide) (by decide)
  have b1 : ν' 24 1 = ν 24 1 := F.2.1 _ _ (by omega) (by omega)
  have b2 : ν' 24 2 = ν 24 2 := F.2.1 _ _ (by omega) (by omega)
  have h44 : μ' 4 = μ 4 := by funext j; exact p4 4 j (by decide) (by decide) (by decide) (by decide)
  have e1 : w32 (ν 24 1 + 1) = ν 24 1 + 1 := w32_eq (by omega) (by omega)
  have e2 : w32 (ν 24 2 + 1) = ν 24 2 + 1 := w32_eq (by omega) (by omega)
  have tm : Int.tmod (ν 24 1 + 1) 5 = (ν 24 1 + 1) % 5 := Int.tmod_eq_emod_of_nonneg (by omega)
  have e5 : (if 4 < ν 24 2 + 1 then 4 else ν 24 2 + 1) = ((K + 1 : Nat) : Int) := by
    rw [h4, n3]
    rcases kN with ⟨rfl, rfl⟩ | ⟨hN, rfl⟩
    · rfl
    · rw [if_neg (by omega)]; omega
  rw [xh_record, bnd_eq, b1, e1, tm, bnd_eq, mst_ix (by decide), b2, e2, e5, bnd_eq]
  have w3 := wf3 M.1
  refine ⟨_, rfl, ?_, ?_, ?_, ?_, fun i hi => ?_, ?_, fun hh => ?_, ?_, fun i hi => ?_⟩
  · rw [p1]; exact SRel_fr S (fun p q _ _ => by rw [mst_pl (by omega), mst_pl (by omega)])
  · obtain ⟨r, k, L⟩ := T
    exact ⟨r, k, LK_fr L (fun q => by rw [mst_pl (by omega), mst_pl (by omega)]) (fun q => by rw [mst_pl (by omega), mst_pl (by omega)]) (fun q => by rw [mst_pl (by omega), mst_pl (by omega)]) (fun q => by rw [mst_pl (by omega), mst_pl (by omega)]) (fun q => by rw [mst_pl (by omega), mst_pl (by omega)])⟩
  · rw [mst_ix (by decide), mst_same]; omega
  · rw [mst_same, n3']
  · rw [n3'] at hi ⊢
    unfold slot
    rw [mst_ix (by decide), mst_same]
    have hF : ∀ b, 26 ≤ b → b + 6 ≤ 60 → ∀ (c : Nat → Int), SRel c ν b → SRel c (mst (mst ν' 24 1 ((ν 24 1 + 1) % 5)) 24 2 ((K + 1 : Nat) : Int)) b := fun b b1 b2 c hc => SRel_fr hc (fun p q _ _ => by rw [mst_pl (by omega), mst_pl (by omega)]; exact F.2.1 p q (by omega) (by omega))
    by_cases c : i = K
    · subst c
      refine SRel_cong ?_ (q1) w3
      rw [show ((ν 24 1 + 1) % 5 + 5 - ((i + 1 : Nat) : Int) + (i : Int)) % 5 = ν 24 1 by omega]
      exact hF _ (by omega) (by omega) _ hrow
    · have hw := M.2.2.1 (i + (N - K)) (by omega)
      refine SRel_cong ?_ (q2 i (by omega)) (wf3 hw)
      have hs := h5 (i + (N - K)) (by omega)
      unfold slot at hs
      rw [n3] at hs
      rw [show ((ν 24 1 + 1) % 5 + 5 - ((K + 1 : Nat) : Int) + (i : Int)) % 5 = (ν 24 1 + 5 - (N : Int) + ((i + (N - K) : Nat) : Int)) % 5 by omega]
      exact hF _ (by omega) (by omega) _ hs
  · rw [mst_pl (by decide), mst_pl (by decide), F.1, a5]; exact h6
  · rw [h44]
    rw [a5] at hh
    exact SRel_fr (h7 hh) (fun p q p1 p2 => by rw [mst_pl (by omega), mst_pl (by omega)]; exact F.2.1 p q (by omega) (by omega))
  · rw [mst_pl (by decide), mst_pl (by decide), F.2.2.1, a7]; exact h8
  · rw [mst_pl (by decide), mst_pl (by decide), F.2.2.2, p4 5 i (by decide) (by decide) (by decide) (by decide)]
    rw [a7] at hi
    exact h9 i hi
theorem PU_MI {μ μ' : Mem} {t u : Int} {a' : Nat → Int} (M : MI μ t) (P : PU μ μ' (μ 1) a') (htu : t ≤ u) (w : Wf a' u) : MI μ' u := by
  obtain ⟨m1, m2, m3, m4, m5, m6, m7⟩ := M
  obtain ⟨p1, p2, ⟨N, K, k3, kN, n3, n3', q1, q2⟩, p4, p5⟩ := P
  have h44 : μ' 4 = μ 4 := by funext j; exact p4 4 j (by decide) (by decide) (by decide) (by decide)
  have a5 : μ' 0 5 = μ 0 5 := p5 5 (by decide) (by decide)
  have a7 : μ' 0 7 = μ 0 7 := p5 7 (by decide) (by decide)
  refine ⟨by rw [p1]; exact w, by rw [n3']; omega, fun i hi => ?_, ?_, by rw [a7]; exact m5, fun i hi => ?_, Or.inl p2, by rw [p4 10 0 (by decide) (by decide) (by decide) (by decide)]; exact m7.2⟩
  · rw [n3'] at hi
    by_cases c : i = K
    · subst c; exact Wf_cong (Wf_mono m1 htu) q1
    · exact Wf_cong (Wf_mono (m3 (i + (N - K)) (by omega)) htu) (q2 i (by omega))
  · rw [a5, h44]
    exact m4.imp id (fun z => ⟨z.1, Wf_mono z.2 htu⟩)
  · rw [p4 5 i (by decide) (by decide) (by decide) (by decide)]
    rw [a7] at hi
    exact m6 i hi
