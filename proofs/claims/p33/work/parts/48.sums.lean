/-! what the jars make, chosen in every way -/
theorem tau_red0 {l : Nat → Int} (h : EL l) {m : Int} (hm : isM m) (hz : ∀ j, j < 8 → l j ≠ 0 → dg j m = 0) : tau (spn l (-5) 8) m = m := by
  have hs := spn_sg l (-5) 8
  refine tau_of hs hm ⟨hm, eqv_rf hs m, fun y hy hey => ?_⟩
  have hb := eqv_sm hs hy hey
  have := low_least h hm 8 (Nat.le_refl _) hz _ hb
  rwa [show mx m (mx y (mx m m)) = mx y (mx m (mx m m)) by simp only [mx_assoc, mx_comm, mx_lc], mx_three, mx_zero hy] at this
theorem tau_mx {S : Int → Prop} {l : Nat → Int} (hE : EL l) (hS : Sg S) (hl : ∀ x, spn l (-5) 8 x ↔ S x) {a b : Int} (ha : isM a) (hb : isM b) : tau S (mx a b) = mx (tau S a) (tau S b) := by
  have hs := spn_sg l (-5) 8
  have ta := tau_is hS ha
  have tb := tau_is hS hb
  have ea : tau S a = red l 8 a := by rw [← tau_cong hl hs ha, red_tau hE ha]
  have eb : tau S b = red l 8 b := by rw [← tau_cong hl hs hb, red_tau hE hb]
  have hM := mx_isM (tau S a) (tau S b)
  have h1 : tau S (mx (tau S a) (tau S b)) = mx (tau S a) (tau S b) := by
    rw [← tau_cong hl hs hM]
    refine tau_red0 hE hM (fun j hj h0 => ?_)
    rw [dg_mx hj, ea, eb, red_dg hE 8 (Nat.le_refl _) a j hj h0, red_dg hE 8 (Nat.le_refl _) b j hj h0]
    rfl
  rw [← h1]
  refine (tau_eq hS (mx_isM a b) hM).mpr ?_
  have hc := hS.2.2 _ _ ta.2.1 tb.2.1
  unfold eqv
  rwa [show mx (mx a b) (mx (mx (tau S a) (tau S b)) (mx (tau S a) (tau S b))) = mx (mx a (mx (tau S a) (tau S a))) (mx b (mx (tau S b) (tau S b))) by simp only [mx_assoc, mx_comm, mx_lc]]
def tw : Nat → Nat
  | 0 => 1
  | k + 1 => 2 * tw k
theorem tw_pos (k : Nat) : 0 < tw k := by
  induction k with
  | zero => decide
  | succ k ih => rw [tw]; omega
theorem tw_mono {j k : Nat} (h : j ≤ k) : tw j ≤ tw k := by
  induction k with
  | zero => rw [show j = 0 by omega]; exact Nat.le_refl _
  | succ k ih =>
    by_cases c : j = k + 1
    · subst c; exact Nat.le_refl _
    · have := ih (by omega); rw [tw]; omega
theorem tw_le {k : Nat} (h : k ≤ 12) : tw k ≤ 4096 := tw_mono (k := 12) h
noncomputable def SM (g : Nat → Int) : Nat → Nat → Int
  | 0, _ => 0
  | i + 1, m => if tw i ≤ m then mx (SM g i (m - tw i)) (g i) else SM g i m
theorem SM_M (g : Nat → Int) (i : Nat) : ∀ m, isM (SM g i m) := by
  induction i with
  | zero => intro m; exact ⟨by rw [SM]; omega, by rw [SM]; omega⟩
  | succ i ih =>
    intro m
    rw [SM]
    split
    · exact mx_isM _ _
    · exact ih m
theorem SM_tau {S : Int → Prop} {l : Nat → Int} (hE : EL l) (hS : Sg S) (hl : ∀ x, spn l (-5) 8 x ↔ S x) {g : Nat → Int} (i : Nat) : ∀ m, (∀ k, k < i → isM (g k)) → SM (fun k => tau S (g k)) i m = tau S (SM g i m) := by
  induction i with
  | zero => intro m _; rw [SM, SM, (tau_0 hS ⟨by omega, by omega⟩).mpr hS.1]
  | succ i ih =>
    intro m hg
    rw [SM, SM]
    split
    · rw [ih _ (fun k hk => hg k (by omega)), tau_mx hE hS hl (SM_M g i _) (hg i (by omega))]
    · exact ih m (fun k hk => hg k (by omega))
/-- the class spreads the tastes -/
theorem xsp37_lp {g : Nat → Int} {i : Nat} {K : Int → Mem → Option Mem} (hi : i < 12) (hg : isM (g i)) (j : Nat) : ∀ (k n : Nat) (μ : Mem), k + j = tw i → j < n → JT μ → μ 66 2 = (tw i : Nat) → (∀ m, m < tw i → μ 67 m = SM g i m) → (∀ m, m < k → μ 67 (tw i + m) = mx (SM g i m) (g i)) → ∃ μ', xc_spread_37 K n i (g i) k μ = K ((i + 1 : Nat) : Int) μ' ∧ μ' 66 2 = (tw (i + 1) : Nat) ∧ (∀ m, m < tw (i + 1) → μ' 67 m = SM g (i + 1) m) ∧ (∀ p q, p ≠ 66 → p ≠ 67 → μ' p q = μ p q) := by
  have hw := tw_le (k := i + 1) (by omega)
  have hp := tw_pos i
  have h2 : tw (i + 1) = 2 * tw i := rfl
  induction j with
  | zero =>
    intro k n μ hk hn hJ h66 ha hb
    obtain ⟨n, rfl⟩ : ∃ m, n = m + 1 := ⟨n - 1, by omega⟩
    rw [xc_spread_37, h66, if_pos (by omega), xc_spread_81, h66, w32_eq (by omega) (by omega), bnd_eq, w32_eq (by omega) (by omega), bnd_eq]
    refine ⟨mst μ 66 2 (2 * ((tw i : Nat) : Int)), by rw [show (i : Int) + 1 = ((i + 1 : Nat) : Int) by omega], by rw [mst_same]; omega, fun m hm => ?_, fun p q hp _ => mst_pl hp⟩
    rw [SM, mst_pl (by decide)]
    by_cases c : tw i ≤ m
    · rw [if_pos c, ← hb (m - tw i) (by omega)]; exact congrArg (μ 67) (by omega)
    · rw [if_neg c]; exact ha m (by omega)
  | succ j ih =>
    intro k n μ hk hn hJ h66 ha hb
    obtain ⟨n, rfl⟩ : ∃ m, n = m + 1 := ⟨n - 1, by omega⟩
    have e3 : w32 ((k : Int) + 1) = ((k + 1 : Nat) : Int) := by rw [w32_eq (by omega) (by omega)]; omega
    have e4 : w32 (((tw i : Nat) : Int) + (k : Int)) = ((tw i + k : Nat) : Int) := by rw [w32_eq (by omega) (by omega)]; omega
    have hM := mx_isM (SM g i k) (g i)
    rw [xc_spread_37, h66, if_neg (by omega), aget_eq (by omega) (by omega), sb, Int.toNat_natCast, ha k (by omega), join_eq hJ (SM_M g i k) hg, sb, n16_id (x := mx (SM g i k) (g i)) (by omega), n16_id (x := mx (SM g i k) (g i)) (by omega), e4, aput_eq (by omega) (by omega), sb, bnd_eq, e3, Int.toNat_natCast]
    obtain ⟨μ', e, r6, r, f⟩ := ih (k + 1) n (mst μ 67 (tw i + k) (mx (SM g i k) (g i))) (by omega) (by omega) (JT_fr hJ (fun q => mst_pl (by decide))) (by rw [mst_pl (by decide)]; exact h66) (fun m hm => by rw [mst_ix (by omega)]; exact ha m hm) (fun m hm => by
      by_cases c : m = k
      · subst c; rw [mst_same]
      · rw [mst_ix (by omega)]; exact hb m (by omega))
    exact ⟨μ', e, r6, r, fun p q h6 h7 => by rw [f p q h6 h7, mst_pl h7]⟩
theorem xsp14_lp {a : Nat → Int} {t : Int} {r : Nat → Int} {k0 : Nat} (w : Wf a t) (j : Nat) : ∀ (i n : Nat) (μ : Mem), (i : Int) + j = a 8 → j < n → SRel a μ 10 → LK μ r k0 → μ 66 2 = (tw i : Nat) → (∀ m, m < tw i → μ 67 m = SM (fun k => tau (spn r (-5) k0) (a (10 + 2 * k))) i m) → ∃ μ', xc_spread_14 n i μ = some μ' ∧ μ' 66 2 = (tw (a 8).toNat : Nat) ∧ (∀ m, m < tw (a 8).toNat → μ' 67 m = SM (fun k => tau (spn r (-5) k0) (a (10 + 2 * k))) (a 8).toNat m) ∧ (∀ p q, p ≠ 66 → p ≠ 67 → μ' p q = μ p q) := by
  have w8 := w.2.1
  induction j with
  | zero =>
    intro i n μ hi hn S L h66 ha
    obtain ⟨n, rfl⟩ : ∃ m, n = m + 1 := ⟨n - 1, by omega⟩
    have : i = (a 8).toNat := by omega
    subst this
    rw [xc_spread_14, S.1, if_pos (by omega), xc_spread_97]
    exact ⟨μ, rfl, h66, ha, fun _ _ _ _ => rfl⟩
  | succ j ih =>
    intro i n μ hi hn S L h66 ha
    obtain ⟨n, rfl⟩ : ∃ m, n = m + 1 := ⟨n - 1, by omega⟩
    have hm : isM (a (10 + 2 * i)) := (w.2.2.1 i (by omega)).1
    have ht := (tau_is (spn_sg r (-5) k0) hm).1
    have hw := tw_le (k := i) (by omega)
    obtain ⟨μ1, e1, s6, r1, f1⟩ := xsp37_lp (g := fun k => tau (spn r (-5) k0) (a (10 + 2 * k))) (i := i) (K := xc_spread_14 n) (by omega) ht (tw i) 0 FU μ (by omega) (by have := FU_ge; omega) L.1 h66 ha (fun m hm => by omega)
    obtain ⟨μ', e, t6, r2, f⟩ := ih (i + 1) n μ1 (by omega) (by omega) (SRel_fr S (fun p q _ _ => f1 p q (by omega) (by omega))) (LK_fr L (fun q => f1 _ _ (by decide) (by decide)) (fun q => f1 _ _ (by decide) (by decide)) (fun q => f1 _ _ (by decide) (by decide)) (fun q => f1 _ _ (by decide) (by decide)) (fun q => f1 _ _ (by decide) (by decide))) s6 r1
    rw [show ((0 : Nat) : Int) = 0 from rfl] at e1
    rw [xc_spread_14, S.1, if_neg (by omega), aget_eq (by omega) (by omega), sb, Int.toNat_natCast, (S.2.2.2.2.1 i (by omega)).2, leastLike_eq L hm, sb, e1]
    exact ⟨μ', e, t6, r2, fun p q h6 h7 => by rw [f p q h6 h7, f1 p q h6 h7]⟩
