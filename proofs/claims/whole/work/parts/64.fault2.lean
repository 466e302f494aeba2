/-! the fault of a text, the same answer -/
theorem MI_PF {μ μ' : Mem} {t : Int} (M : MI μ t) (f : PF μ μ') : MI μ' t := by
  obtain ⟨m1, m2, m3, m4, m5, m6, m7⟩ := M
  have o : ∀ p q, p ≠ 0 → μ' p q = μ p q := fun p q h => f p q (Or.inl h)
  have e1 : μ' 1 = μ 1 := by funext q; exact o _ _ (by decide)
  have h44 : μ' 4 = μ 4 := by funext q; exact o _ _ (by decide)
  have kk : ∀ i, hr μ' i = hr μ i := fun i => by funext j; unfold hr; exact o _ _ (by decide)
  have f3 : μ' 0 3 = μ 0 3 := f _ _ (by decide)
  have f5 : μ' 0 5 = μ 0 5 := f _ _ (by decide)
  have f7 : μ' 0 7 = μ 0 7 := f _ _ (by decide)
  refine ⟨by rw [e1]; exact m1, by rw [f3]; exact m2, fun i hi => ?_, by rw [f5, h44]; exact m4, by rw [f7]; exact m5, fun i hi => ?_, LD_fr m7 e1 (fun q => o _ _ (by decide)) (fun q => o _ _ (by decide)) (f _ _ (by decide)) (f _ _ (by decide)) (o _ _ (by decide))⟩
  · rw [f3] at hi; rw [kk]; exact m3 i hi
  · rw [f7] at hi; rw [o _ _ (by decide)]; exact m6 i hi
theorem XI_PF {ν ν' μ μ' : Mem} (X : XI ν μ) (f : PF μ μ') (g : XP ν ν') : XI ν' μ' := by
  obtain ⟨h1, h2, h3, h4, h5, h6, h7, h8, h9⟩ := X
  have o : ∀ p q, p ≠ 0 → μ' p q = μ p q := fun p q h => f p q (Or.inl h)
  have e1 : μ' 1 = μ 1 := by funext q; exact o _ _ (by decide)
  have h44 : μ' 4 = μ 4 := by funext q; exact o _ _ (by decide)
  have kk : ∀ i, hr μ' i = hr μ i := fun i => by funext j; unfold hr; exact o _ _ (by decide)
  have f3 : μ' 0 3 = μ 0 3 := f _ _ (by decide)
  have f5 : μ' 0 5 = μ 0 5 := f _ _ (by decide)
  have f7 : μ' 0 7 = μ 0 7 := f _ _ (by decide)
  have x : ∀ p q, p ≠ 63 → p ≠ 65 → ν' p q = ν p q := fun p q a b => g p q (Or.inl a) b
  refine ⟨by rw [e1]; exact SRel_fr h1 (fun p q _ _ => x p q (by omega) (by omega)), ?_, by rw [x _ _ (by decide) (by decide)]; exact h3, by rw [x _ _ (by decide) (by decide), f3]; exact h4, fun i hi => ?_, by rw [x _ _ (by decide) (by decide), f5]; exact h6, fun hh => ?_, by rw [g _ _ (by decide) (by decide), f7]; exact h8, fun i hi => ?_⟩
  · obtain ⟨r, k, L⟩ := h2
    exact ⟨r, k, LK_fr L (fun q => x _ _ (by decide) (by decide)) (fun q => x _ _ (by decide) (by decide)) (fun q => x _ _ (by decide) (by decide)) (fun q => x _ _ (by decide) (by decide)) (fun q => x _ _ (by decide) (by decide))⟩
  · rw [f3] at hi ⊢
    have hs := h5 i hi
    unfold slot at hs ⊢
    rw [x 24 1 (by decide) (by decide), kk]
    exact SRel_fr hs (fun p q _ _ => x p q (by omega) (by omega))
  · rw [f5] at hh
    rw [h44]
    exact SRel_fr (h7 hh) (fun p q _ _ => x p q (by omega) (by omega))
  · rw [f7] at hi
    rw [x _ _ (by decide) (by decide), o _ _ (by decide)]; exact h9 i hi
theorem RT_of {μ : Mem} {t : Int} (M : MI μ t) : RT (μ 5) (μ 0 7).toNat μ := ⟨by have := M.2.2.2.2.1; omega, by have := M.2.2.2.2.1; omega, fun i hi => ⟨rfl, M.2.2.2.2.2.1 i (by omega)⟩⟩
theorem XT_of {ν μ : Mem} {t : Int} (M : MI μ t) (X : XI ν μ) : XT (μ 5) (μ 0 7).toNat ν := ⟨by have := M.2.2.2.2.1; rw [X.2.2.2.2.2.2.2.1]; omega, by have := M.2.2.2.2.1; omega, fun i hi => ⟨X.2.2.2.2.2.2.2.2 i (by omega), M.2.2.2.2.2.1 i (by omega)⟩⟩
theorem sim_fault : SIM mm_fault xx_fault := by
  intro μ ν t h0 ht M X
  have T := RT_of M
  have Y := XT_of M X
  have hl := T.2.1
  have f0 : PF μ (mst (mst μ 0 14 0) 0 15 0) := PF_15 (PF_14 (PF_rf μ) _) _
  obtain ⟨v, μ', e1, R1, f1⟩ := mgo0_lp (tx := μ 5) (len := (μ 0 7).toNat) 61 0 FU 0 (mst (mst μ 0 14 0) 0 15 0) (by omega) (by omega) (by have := FU_ge; omega) (by omega) (by omega) (fun j hj => by rw [mst_pl (by decide), mst_pl (by decide)]; exact M.1.1 j hj) (RT_fr T f0) ⟨by rw [mst_ix (by decide), mst_same]; rfl, mst_same _ _ _ _⟩
  have g0 : XP ν (mst ν 63 2 0) := XP_2 (XP_rf ν) _
  obtain ⟨ν', e2, f2⟩ := xff_lp (tx := μ 5) (len := (μ 0 7).toNat) 61 0 FU 0 (mst ν 63 2 0) (by omega) (by omega) (by have := FU_ge; omega) (by omega) (by omega) (XT_fr Y g0) (mst_same _ _ _ _)
  have F := PF_tr f0 f1
  have G := XP_tr g0 f2
  have hm : mm_fault μ = some (if (gP (μ 5) (μ 0 7).toNat 61 0).1 = true then -5 else (((gP (μ 5) (μ 0 7).toNat 61 0).2 : Nat) : Int), μ') := by
    rw [mm_fault, mm_go, bnd_eq, bnd_eq, e1, sb, bnd_eq]
    cases hg : (gP (μ 5) (μ 0 7).toNat 61 0).1 with
    | true =>
      rw [hg] at R1
      have r2 : μ' 0 15 = 0 := R1.2
      rw [if_pos r2, if_pos rfl, mm_fault_22]
    | false =>
      rw [hg] at R1
      have r2 : μ' 0 15 = 1 := R1.2
      have r1 : μ' 0 14 = _ := R1.1
      rw [if_neg (show ¬ μ' 0 15 = 0 by omega), if_neg (by decide), mm_fault_22]
      show some (μ' 0 14, μ') = _
      rw [r1]
  have hx : xx_fault ν = some (if (gP (μ 5) (μ 0 7).toNat 61 0).1 = true then -5 else (((gP (μ 5) (μ 0 7).toNat 61 0).2 : Nat) : Int), ν') := by
    rw [xx_fault, xw_findFault, xw_start, bnd_eq, sb, e2, sb]
  exact ⟨_, μ', ν', hm, hx, MI_mono (MI_PF M F) (by omega), XI_PF X F G⟩
