/-! the reference's lay: the tastes of all mixes -/
noncomputable def ci (p : Prop) (a b : Int) : Int := @ite Int p (Classical.propDecidable p) a b
theorem ci_pos {p : Prop} {a b : Int} (h : p) : ci p a b = a := by unfold ci; exact if_pos h
theorem ci_neg {p : Prop} {a b : Int} (h : ¬ p) : ci p a b = b := by unfold ci; exact if_neg h
theorem ci_cong {p q : Prop} {a b : Int} (h : p ↔ q) : ci p a b = ci q a b := by
  rcases Classical.em p with hp | hp
  · rw [ci_pos hp, ci_pos (h.mp hp)]
  · rw [ci_neg hp, ci_neg (fun z => hp (h.mpr z))]
theorem ly91 {K : Int → Int → Mem → Option Mem} {S : Int → Prop} {c i : Int} (hi : isM i) (hc : c ≤ 6561) {bl : Nat → Int} (j : Nat) : ∀ (n k : Nat) (μ : Mem), (k : Int) + j = c → j < n →
    (∀ q : Nat, (q : Int) < c → μ 8 q = bl q ∧ isM (bl q)) → (∀ m, isM m → μ 7 m.toNat = ci (tau S m < i) (tau S m) (ci (∃ q : Nat, q < k ∧ m = mx i (bl q)) i (-5))) → (∀ q : Nat, (q : Int) < c → ¬ tau S (mx i (bl q)) < i) →
    ∃ μ', mm_lay_91 K n c i 1 k μ = mm_lay_124 K c i μ' ∧ (∀ p q, p ≠ 7 → μ' p q = μ p q) ∧ ∀ m, isM m → μ' 7 m.toNat = ci (tau S m < i) (tau S m) (ci (∃ q : Nat, (q : Int) < c ∧ m = mx i (bl q)) i (-5)) := by
  induction j with
  | zero =>
    intro n k μ hk hn h8 h7 _
    obtain ⟨n, rfl⟩ : ∃ m, n = m + 1 := ⟨n - 1, by omega⟩
    refine ⟨μ, by rw [mm_lay_91, if_pos (by omega)], fun p q _ => rfl, fun m hm => ?_⟩
    rw [h7 m hm]
    congr 1
    exact ci_cong ⟨fun ⟨q, a, b⟩ => ⟨q, by omega, b⟩, fun ⟨q, a, b⟩ => ⟨q, by omega, b⟩⟩
  | succ j ih =>
    intro n k μ hk hn h8 h7 hnt
    obtain ⟨n, rfl⟩ : ∃ m, n = m + 1 := ⟨n - 1, by omega⟩
    have hb := h8 k (by omega)
    have hx := mx_isM i (bl k)
    have e1 : w32 ((k : Int) + 1) = ((k + 1 : Nat) : Int) := by rw [w32_eq (by omega) (by omega)]; omega
    have hh : ∀ m, isM m → (mst μ 7 (mx i (bl k)).toNat i) 7 m.toNat = ci (tau S m < i) (tau S m) (ci (∃ q : Nat, q < k + 1 ∧ m = mx i (bl q)) i (-5)) := by
      intro m hm
      by_cases c1 : m = mx i (bl k)
      · subst c1
        rw [mst_same, ci_neg (hnt k (by omega)), ci_pos ⟨k, by omega, rfl⟩]
      · rw [mst_ix (by rw [Ne, toN hm.1 hx.1]; exact c1), h7 m hm]
        congr 1
        refine ci_cong ⟨fun ⟨q, a, b⟩ => ⟨q, by omega, b⟩, fun ⟨q, a, b⟩ => ⟨q, ?_, b⟩⟩
        by_cases hq : q = k
        · subst hq; exact absurd b c1
        · omega
    rw [mm_lay_91, if_neg (by omega), if_neg (by decide), aget_eq (by omega) (by omega), sb, Int.toNat_natCast, hb.1, mixed_eq hi hb.2, sb, aput_eq hx.1 hx.2, sb, bnd_eq, e1]
    obtain ⟨μ', e, f, g⟩ := ih n (k + 1) _ (by omega) (by omega) (fun q hq => by rw [mst_pl (by decide)]; exact h8 q hq) hh hnt
    exact ⟨μ', e, fun p q hp => by rw [f p q hp, mst_pl hp], g⟩
theorem ly64 {S : Int → Prop} (hS : Sg S) {c : Int} (hc0 : 0 ≤ c) (hc : c ≤ 6561) {bl : Nat → Int} (hb : ∀ q : Nat, (q : Int) < c → isM (bl q) ∧ S (bl q)) (hb2 : ∀ x, S x → ∃ q : Nat, (q : Int) < c ∧ bl q = x) (j : Nat) : ∀ (n : Nat) (i : Int) (μ : Mem), i + j = 6561 → 0 ≤ i → j < n →
    (∀ q : Nat, (q : Int) < c → μ 8 q = bl q) → (∀ m, isM m → μ 7 m.toNat = ci (tau S m < i) (tau S m) (-5)) →
    ∃ μ', mm_lay_64 n c i μ = some (mst μ' 0 8 1) ∧ (∀ p q, p ≠ 7 → μ' p q = μ p q) ∧ ∀ m, isM m → μ' 7 m.toNat = tau S m := by
  induction j with
  | zero =>
    intro n i μ hi h0 hn h8 h7
    obtain ⟨n, rfl⟩ : ∃ m, n = m + 1 := ⟨n - 1, by omega⟩
    refine ⟨μ, by rw [mm_lay_64, if_pos (by omega), mm_lay_130, bnd_eq], fun p q _ => rfl, fun m hm => ?_⟩
    rw [h7 m hm, ci_pos (by have := (tau_is hS hm).1.2; omega)]
  | succ j ih =>
    intro n i μ hi h0 hn h8 h7
    obtain ⟨n, rfl⟩ : ∃ m, n = m + 1 := ⟨n - 1, by omega⟩
    have hiM : isM i := ⟨h0, by omega⟩
    have e1 : w32 (i + 1) = i + 1 := w32_eq (by omega) (by omega)
    have hti := tau_is hS hiM
    have htle := tau_le hS hiM
    rw [mm_lay_64, if_neg (by omega), aget_eq h0 (by omega), sb, h7 i hiM]
    by_cases hf : tau S i < i
    · -- not the first of its taste
      have hne : tau S i ≠ -5 := by have := hti.1.1; omega
      rw [ci_pos hf, if_neg hne, mm_lay_87]
      have key : mm_lay_91 (mm_lay_64 n) FU c i 0 0 μ = mm_lay_64 n c (i + 1) μ := by
        obtain ⟨f, hf⟩ : ∃ f, FU = f + 1 := ⟨FU - 1, by have := FU_ge; omega⟩
        rw [hf, mm_lay_91]
        by_cases hcc : c ≤ 0
        · rw [if_pos hcc, mm_lay_124, bnd_eq, e1]
        · rw [if_neg hcc, if_pos rfl, mm_lay_124, bnd_eq, e1]
      rw [key]
      refine ih n (i + 1) μ (by omega) (by omega) (by omega) h8 (fun m hm => ?_)
      rw [h7 m hm]
      refine ci_cong ⟨fun h => by omega, fun h => ?_⟩
      by_cases hm2 : tau S m = i
      · exfalso
        have := tau_tau hS hm
        rw [hm2] at this
        omega
      · omega
    · have hti2 : tau S i = i := by omega
      have key : ∀ q : Nat, (q : Int) < c → tau S (mx i (bl q)) = i := by
        intro q hq
        have hq2 := hb q hq
        rw [← hti2]
        rw [hti2]
        have : tau S (mx i (bl q)) = tau S i := (tau_eq hS (mx_isM _ _) hiM).mpr (by
          unfold eqv
          rw [show mx (mx i (bl q)) (mx i i) = mx (bl q) (mx i (mx i i)) by simp only [mx_assoc, mx_comm, mx_lc], mx_three, mx_zero hq2.1]
          exact hq2.2)
        rw [this, hti2]
      rw [ci_neg hf, if_pos rfl, mm_lay_87]
      obtain ⟨μ1, q1, q2, q3⟩ := ly91 (K := mm_lay_64 n) (S := S) (c := c) hiM hc (bl := bl) c.toNat FU 0 μ (by omega) (by have := FU_ge; omega) (fun q hq => ⟨h8 q hq, (hb q hq).1⟩) (fun m hm => by
        rw [h7 m hm]
        congr 1
        exact (ci_neg (fun ⟨q, a, _⟩ => by omega)).symm) (fun q hq => by rw [key q hq]; omega)
      have e0 : ((0 : Nat) : Int) = 0 := rfl
      rw [e0] at q1
      rw [q1, mm_lay_124, bnd_eq, e1]
      have h7' : ∀ m, isM m → μ1 7 m.toNat = ci (tau S m < i + 1) (tau S m) (-5) := by
        intro m hm
        rw [q3 m hm]
        by_cases c1 : tau S m < i
        · rw [ci_pos c1, ci_pos (by omega)]
        · rw [ci_neg c1]
          by_cases c2 : tau S m = i
          · have he : eqv S m i := (tau_eq hS hm hiM).mp (by rw [c2, hti2])
            obtain ⟨q, a1, a2⟩ := hb2 _ he
            rw [ci_pos ⟨q, a1, by rw [a2, mx_comm m, ← mx_assoc, mx_three, mx_zero' hm]⟩, ci_pos (by omega), c2]
          · rw [ci_neg (fun ⟨q, a1, a2⟩ => c2 (by rw [a2]; exact key q a1)), ci_neg (by omega)]
      obtain ⟨μ', o1, o2, o3⟩ := ih n (i + 1) μ1 (by omega) (by omega) (by omega) (fun q hq => by rw [q2 8 _ (by decide)]; exact h8 q hq) h7'
      exact ⟨μ', o1, fun p q hp => by rw [o2 p q hp, q2 p q hp], o3⟩
theorem ly22 {S : Int → Prop} (hS : Sg S) (j : Nat) : ∀ (n : Nat) (c i : Int) (μ : Mem), i + j = 6561 → 0 ≤ i → j < n → 0 ≤ c → c ≤ i →
    (∀ m, isM m → μ 6 m.toNat = bi (S m)) → (∀ m, isM m → m < i → μ 7 m.toNat = -5) → (∀ q : Nat, (q : Int) < c → isM (μ 8 q) ∧ S (μ 8 q)) → (∀ x, S x → x < i → ∃ q : Nat, (q : Int) < c ∧ μ 8 q = x) →
    ∃ μ', mm_lay_22 n c i μ = some (mst μ' 0 8 1) ∧ (∀ p q, p ≠ 7 → p ≠ 8 → μ' p q = μ p q) ∧ ∀ m, isM m → μ' 7 m.toNat = tau S m := by
  induction j with
  | zero =>
    intro n c i μ hi h0 hn hc0 hc h6 h7 h8 h9
    obtain ⟨n, rfl⟩ : ∃ m, n = m + 1 := ⟨n - 1, by omega⟩
    rw [mm_lay_22, if_pos (by omega), mm_lay_62]
    obtain ⟨μ', o1, o2, o3⟩ := ly64 hS hc0 (by omega) (bl := fun q => μ 8 q) h8 (fun x hx => h9 x hx (by have := (hS.2.1 x hx).2; omega)) 6561 FU 0 μ (by omega) (by omega) (by have := FU_ge; omega) (fun q _ => rfl) (fun m hm => by
      rw [h7 m hm (by have := hm.2; omega), ci_neg (by have := (tau_is hS hm).1.1; omega)])
    exact ⟨μ', o1, fun p q hp _ => o2 p q hp, o3⟩
  | succ j ih =>
    intro n c i μ hi h0 hn hc0 hc h6 h7 h8 h9
    obtain ⟨n, rfl⟩ : ∃ m, n = m + 1 := ⟨n - 1, by omega⟩
    have hiM : isM i := ⟨h0, by omega⟩
    have e1 : w32 (i + 1) = i + 1 := w32_eq (by omega) (by omega)
    have e2 : w32 (c + 1) = c + 1 := w32_eq (by omega) (by omega)
    have h7' : ∀ m, isM m → m < i + 1 → (mst μ 7 i.toNat (-5)) 7 m.toNat = -5 := by
      intro m hm hl
      by_cases c1 : m = i
      · subst c1; rw [mst_same]
      · rw [mst_ix (by rw [Ne, toN hm.1 h0]; exact c1)]
        exact h7 m hm (by omega)
    rw [mm_lay_22, if_neg (by omega), aput_eq h0 (by omega), sb, aget_eq h0 (by omega), sb, mst_pl (by decide), h6 i hiM]
    by_cases hs : S i
    · have h8' : ∀ q : Nat, (q : Int) < c + 1 → (mst (mst μ 7 i.toNat (-5)) 8 c.toNat i) 8 q = ci ((q : Int) = c) i (μ 8 q) := by
        intro q hq
        by_cases c1 : (q : Int) = c
        · rw [ci_pos c1, show q = c.toNat by omega, mst_same]
        · rw [ci_neg c1, mst_ix (by omega), mst_pl (by decide)]
      rw [bi_pos hs, if_neg (by decide), aput_eq hc0 (by omega), sb, bnd_eq, e2, mm_lay_56, bnd_eq, e1]
      obtain ⟨μ', o1, o2, o3⟩ := ih n (c + 1) (i + 1) (mst (mst μ 7 i.toNat (-5)) 8 c.toNat i) (by omega) (by omega) (by omega) (by omega) (by omega) (fun m hm => by rw [mst_pl (by decide), mst_pl (by decide)]; exact h6 m hm) (fun m hm hl => by rw [mst_pl (by decide)]; exact h7' m hm hl) (fun q hq => by
        rw [h8' q hq]
        by_cases c1 : (q : Int) = c
        · rw [ci_pos c1]; exact ⟨hiM, hs⟩
        · rw [ci_neg c1]; exact h8 q (by omega)) (fun x hx hl => by
        by_cases c1 : x = i
        · exact ⟨c.toNat, by omega, by rw [h8' _ (by omega), ci_pos (by omega), c1]⟩
        · obtain ⟨q, a1, a2⟩ := h9 x hx (by omega)
          exact ⟨q, by omega, by rw [h8' q (by omega), ci_neg (by omega), a2]⟩)
      exact ⟨μ', o1, fun p q h1 h2 => by rw [o2 p q h1 h2, mst_pl h2, mst_pl h1], o3⟩
    · rw [bi_neg hs, if_pos rfl, mm_lay_56, bnd_eq, e1]
      obtain ⟨μ', o1, o2, o3⟩ := ih n c (i + 1) (mst μ 7 i.toNat (-5)) (by omega) (by omega) (by omega) (by omega) (by omega) (fun m hm => by rw [mst_pl (by decide)]; exact h6 m hm) h7' (fun q hq => by rw [mst_pl (by decide)]; exact h8 q hq) (fun x hx hl => by
        by_cases c1 : x = i
        · subst c1; exact absurd hx hs
        · obtain ⟨q, a1, a2⟩ := h9 x hx (by omega)
          exact ⟨q, a1, by rw [mst_pl (by decide)]; exact a2⟩)
      exact ⟨μ', o1, fun p q h1 h2 => by rw [o2 p q h1 h2, mst_pl h1], o3⟩
/-- the tables are right for the rules, if the reference says that they are laid -/
def laidM (μ : Mem) (r : Nat → Int) (k : Nat) : Prop := μ 0 9 = rk r (-5) k ∧ (∀ m, isM m → μ 7 m.toNat = tau (spn r (-5) k) m) ∧ ∀ m, isM m → μ 6 m.toNat = bi (spn r (-5) k m)
theorem lay_eq {r : Nat → Int} {k : Nat} {μ : Mem} (hr : rulM μ r k) (hl : μ 0 8 = 0 ∨ (μ 0 8 = 1 ∧ laidM μ r k)) : ∃ μ', mm_lay μ = some μ' ∧ (∀ p q, p ≠ 0 → p ≠ 6 → p ≠ 7 → p ≠ 8 → p ≠ 9 → μ' p q = μ p q) ∧ (∀ q, q ≠ 8 → q ≠ 9 → μ' 0 q = μ 0 q) ∧ μ' 0 8 = 1 ∧ laidM μ' r k := by
  rcases hl with hl | ⟨hl, hl2⟩
  · obtain ⟨μ1, q1, q2, q3⟩ := layBland_eq (b := -5) hr
    obtain ⟨μ', o1, o2, o3⟩ := ly22 (spn_sg r (-5) k) 6561 FU 0 0 (mst μ1 0 9 (rk r (-5) k)) (by omega) (by omega) (by have := FU_ge; omega) (by omega) (by omega) (fun m hm => by rw [mst_pl (by decide)]; exact q3 m hm) (fun m hm hl => by have := hm.1; omega) (fun q hq => by omega) (fun x hx hl => by have := ((spn_sg r (-5) k).2.1 x hx).1; omega)
    refine ⟨mst μ' 0 8 1, ?_, ?_, ?_, mst_same _ _ _ _, ?_, ?_, ?_⟩
    · rw [mm_lay, if_pos hl, q1, sb, bnd_eq]; exact o1
    · intro p q h0 h6 h7 h8 h9
      rw [mst_pl h0, o2 p q h7 h8, mst_pl h0, q2 p q h6 h9]
    · intro q h8 h9
      rw [mst_ix h8, o2 0 q (by decide) (by decide), mst_ix h9, q2 0 q (by decide) (by decide)]
    · rw [mst_ix (by decide), o2 0 9 (by decide) (by decide), mst_same]
    · intro m hm; rw [mst_pl (by decide)]; exact o3 m hm
    · intro m hm; rw [mst_pl (by decide), o2 6 _ (by decide) (by decide), mst_pl (by decide)]; exact q3 m hm
  · exact ⟨μ, by rw [mm_lay, if_neg (by omega)], fun p q _ _ _ _ _ => rfl, fun q _ _ => rfl, hl, hl2⟩
