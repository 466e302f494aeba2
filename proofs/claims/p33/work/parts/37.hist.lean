/-! the class's copies and history; the two memories agree -/
theorem mcp_in {μ : Mem} {k0 k1 n q : Nat} (h : q < n) : mcp μ k0 k1 0 0 n k1 q = μ k0 q := by
  unfold mcp
  rw [if_pos ⟨rfl, Nat.zero_le _, by omega⟩, Nat.zero_add, Nat.sub_zero]
theorem mcp_pl {μ : Mem} {k0 k1 n p q : Nat} (h : p ≠ k1) : mcp μ k0 k1 0 0 n p q = μ p q := by
  unfold mcp
  rw [if_neg (fun z => h z.1)]
theorem xcopy_eq {t o : Nat} (h : t + 6 < o ∨ o + 6 < t) (μ : Mem) : ∃ μ', xs_copyFrom t o μ = some μ' ∧ (∀ a : Nat → Int, (a 8 ≤ 12 ∧ a 34 ≤ 8 ∧ a 43 ≤ 8) → SRel a μ o → SRel a μ' t) ∧ (∀ p q, (p < t ∨ t + 6 < p) → μ' p q = μ p q) ∧ μ' t 2 = μ o 2 := by
  refine ⟨_, rfl, fun a w r => ?_, fun p q hp => ?_, ?_⟩
  · obtain ⟨h1, h2, h3, h4, h5, h6, h7, h8, h9⟩ := r
    refine ⟨?_, ?_, ?_, ?_, fun k hk => ⟨?_, ?_⟩, fun k hk => ?_, fun k hk => ?_, fun k hk => ?_, fun k hk => ?_⟩
    · simp (disch := omega) only [stp, mcp_pl, mst_pl, mst_ix, mst_same]; exact h1
    · simp (disch := omega) only [stp, mcp_pl, mst_pl, mst_ix, mst_same]; exact h2
    · simp (disch := omega) only [stp, mcp_pl, mst_pl, mst_ix, mst_same]; exact h3
    · simp (disch := omega) only [stp, mcp_pl, mst_pl, mst_ix, mst_same]; exact h4
    · simp (disch := omega) only [stp, mcp_pl, mcp_in, mst_pl, mst_ix, mst_same]; exact (h5 k hk).1
    · simp (disch := omega) only [stp, mcp_pl, mcp_in, mst_pl, mst_ix, mst_same]; exact (h5 k hk).2
    · simp (disch := omega) only [stp, mcp_pl, mcp_in, mst_pl, mst_ix, mst_same]; exact h6 k hk
    · simp (disch := omega) only [stp, mcp_pl, mcp_in, mst_pl, mst_ix, mst_same]; exact h7 k hk
    · simp (disch := omega) only [stp, mcp_pl, mcp_in, mst_pl, mst_ix, mst_same]; exact h8 k hk
    · simp (disch := omega) only [stp, mcp_pl, mcp_in, mst_pl, mst_ix, mst_same]; exact h9 k hk
  · simp (disch := omega) only [stp, mcp_pl, mst_pl]
  · simp (disch := omega) only [stp, mcp_pl, mst_pl, mst_ix, mst_same]
/-- what an order of the class leaves alone -/
def XF (ν ν' : Mem) : Prop := (∀ q, ν' 0 q = ν 0 q) ∧ (∀ p q, 17 ≤ p → p ≤ 61 → ν' p q = ν p q) ∧ ν' 63 1 = ν 63 1 ∧ ∀ q, ν' 64 q = ν 64 q
theorem XF_rf (ν : Mem) : XF ν ν := ⟨fun _ => rfl, fun _ _ _ _ => rfl, rfl, fun _ => rfl⟩
theorem XF_tr {a b c : Mem} (h : XF a b) (g : XF b c) : XF a c := ⟨fun q => by rw [g.1, h.1], fun p q h1 h2 => by rw [g.2.1 p q h1 h2, h.2.1 p q h1 h2], by rw [g.2.2.1, h.2.2.1], fun q => by rw [g.2.2.2, h.2.2.2]⟩
theorem frb_XF {ν ν' : Mem} (h : frb ν ν') : XF ν ν' := ⟨fun q => h _ _ (by omega), fun p q h1 h2 => h _ _ (by omega), h _ _ (by omega), fun q => h _ _ (by omega)⟩
theorem fr_XF {ν ν' : Mem} (h : fr ν ν') : XF ν ν' := frb_XF (fr_frb h)
theorem TI_frb {ν ν' : Mem} (h : frb ν ν') (T : TI ν) : TI ν' := by
  obtain ⟨r, k, L⟩ := T
  exact ⟨r, k, LK_fr L (fun q => h _ _ (by omega)) (fun q => h _ _ (by omega)) (fun q => h _ _ (by omega)) (fun q => h _ _ (by omega)) (fun q => h _ _ (by omega))⟩
theorem TI_fr {ν ν' : Mem} (h : fr ν ν') (T : TI ν) : TI ν' := TI_frb (fr_frb h) T