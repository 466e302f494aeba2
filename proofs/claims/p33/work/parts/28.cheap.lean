/-! the class's cheapest mix of a taste; the first jar of a taste; needless rules -/
theorem fc_lp {p : Nat → Int} (hp : okP p) (j : Nat) : ∀ (n : Nat) (i : Int) (μ : Mem), i + j = 81 → 0 ≤ i → j < n → (∀ q, q < 8 → μ 14 q = p q) → (∀ q : Nat, (q : Int) < i → μ 8 q = prc p q ∧ μ 9 q = prc p (q * 81)) →
    ∃ μ', xt_fillCosts_2 n i μ = some μ' ∧ (∀ a b, a ≠ 8 → a ≠ 9 → μ' a b = μ a b) ∧ ∀ q : Nat, q < 81 → μ' 8 q = prc p q ∧ μ' 9 q = prc p (q * 81) := by
  induction j with
  | zero =>
    intro n i μ hi h0 hn _ hz
    obtain ⟨n, rfl⟩ : ∃ m, n = m + 1 := ⟨n - 1, by omega⟩
    exact ⟨μ, by rw [xt_fillCosts_2, if_pos (by omega), xt_fillCosts_39], fun a b _ _ => rfl, fun q hq => hz q (by omega)⟩
  | succ j ih =>
    intro n i μ hi h0 hn h14 hz
    obtain ⟨n, rfl⟩ : ∃ m, n = m + 1 := ⟨n - 1, by omega⟩
    have e1 : w32 (i + 1) = i + 1 := w32_eq (by omega) (by omega)
    have e2 : w32 (i * 81) = i * 81 := w32_eq (by omega) (by omega)
    have ho : okP (μ 14) := fun q hq => by rw [h14 q hq]; exact hp q hq
    have ho2 : okP ((mst μ 8 i.toNat (prc p i)) 14) := fun q hq => by rw [mst_pl (by decide)]; exact ho q hq
    have c1 : prc (μ 14) i = prc p i := prc_cong h14 i
    have c2 : prc ((mst μ 8 i.toNat (prc p i)) 14) (i * 81) = prc p (i * 81) := prc_cong (fun q hq => by rw [mst_pl (by decide)]; exact h14 q hq) _
    rw [xt_fillCosts_2, if_neg (by omega), xprice_eq ho ⟨h0, by omega⟩, sb, c1, aput_eq h0 (by omega), sb, e2, xprice_eq ho2 ⟨by omega, by omega⟩, sb, c2, aput_eq h0 (by omega), sb, bnd_eq, e1]
    obtain ⟨μ', o1, o2, o3⟩ := ih n (i + 1) (mst (mst μ 8 i.toNat (prc p i)) 9 i.toNat (prc p (i * 81))) (by omega) (by omega) (by omega) (fun q hq => by rw [mst_pl (by decide), mst_pl (by decide)]; exact h14 q hq) (fun q hq => by
      by_cases c : q = i.toNat
      · subst c
        rw [mst_pl (by decide), mst_same, mst_same, show ((i.toNat : Nat) : Int) = i by omega]
        exact ⟨rfl, rfl⟩
      · rw [mst_pl (by decide), mst_ix c, mst_ix c, mst_pl (by decide)]
        exact hz q (by omega))
    exact ⟨μ', o1, fun a b h8 h9 => by rw [o2 a b h8 h9, mst_pl h9, mst_pl h8], o3⟩
theorem xch_lp {μ : Mem} {R : Nat} {S : Int → Prop} (hS : Sg S) (hJ : JT μ) (hR : PRT μ R S) {p : Nat → Int} (hp : okP p) (h8 : ∀ q : Nat, q < 81 → μ 8 q = prc p q ∧ μ 9 q = prc p (q * 81)) {m : Int} (hm : isM m) (j : Nat) : ∀ (n s : Nat) (c : Int), s + 1 + j = pw3 R → j < n → isM c → eqv S m c →
    (∀ t : Nat, t ≤ s → prc p c < prc p (gw (μ 7) m t) ∨ (prc p c = prc p (gw (μ 7) m t) ∧ c ≤ gw (μ 7) m t)) →
    ∃ d, xt_cheapestLike_20 n c (prc p c) (gw (μ 7) m s) ((s + 1 : Nat) : Int) μ = some (d, μ) ∧ IsC S p m d := by
  induction j with
  | zero =>
    intro n s c hs hn hcm he hy
    obtain ⟨n, rfl⟩ : ∃ m, n = m + 1 := ⟨n - 1, by omega⟩
    have hq := pw3_p3 R
    refine ⟨c, by rw [xt_cheapestLike_20, PRT_at hR, sb, if_pos (by omega), xt_cheapestLike_99], hcm, he, fun y a b => ?_⟩
    obtain ⟨t, t1, t2⟩ := (gw_all hR hm a).mpr (eqv_sm hS a b)
    have := hy t (by omega)
    rwa [t2] at this
  | succ j ih =>
    intro n s c hs hn hcm he hy
    obtain ⟨n, rfl⟩ : ∃ m, n = m + 1 := ⟨n - 1, by omega⟩
    have hq := pw3_p3 R
    have hqq := pw3_le hR.1
    have e1 : w32 (((s + 1 : Nat) : Int) + 1) = ((s + 1 + 1 : Nat) : Int) := by rw [w32_eq (by omega) (by omega)]; omega
    have hn1 : xt_nextLike (gw (μ 7) m s) ((s + 1 : Nat) : Int) μ = some (gw (μ 7) m (s + 1)) := nextLike_eq hJ hR (gw_M hm s) (by omega) (by omega)
    have hl : isM (gw (μ 7) m (s + 1)) := gw_M hm _
    have hel : eqv S m (gw (μ 7) m (s + 1)) := eqv_sm hS hm ((gw_all hR hm hl).mp ⟨s + 1, by omega, rfl⟩)
    have ih' := ih n (s + 1)
    rw [xt_cheapestLike_20, PRT_at hR, sb, if_neg (by omega), hn1, sb]
    generalize hg : gw (μ 7) m (s + 1) = g at hl hel ih' ⊢
    have hl1 := hl.1
    have hl2 := hl.2
    have hq1 := (h8 (g % 81).toNat (by omega)).1
    have hq2 := (h8 (g / 81).toNat (by omega)).2
    rw [show (((g % 81).toNat : Nat) : Int) = g % 81 by omega] at hq1
    rw [show (((g / 81).toNat : Nat) : Int) = g / 81 by omega] at hq2
    have hpl := prc_b hp g
    have hsp : prc p (g % 81) + prc p (g / 81 * 81) = prc p g := by simp only [prc_def]; exact (prk_split p _).symm
    have e5 : w32 (prc p (g % 81) + prc p (g / 81 * 81)) = prc p g := by rw [hsp, w32_eq (by omega) (by omega)]
    have e6 : w32 (Int.tdiv g 81) = g / 81 := by rw [tdE hl1, w32_eq (by omega) (by omega)]
    have old : ∀ c' : Int, (prc p c' < prc p c ∨ (prc p c' = prc p c ∧ c' ≤ c)) → ∀ t, t ≤ s → prc p c' < prc p (gw (μ 7) m t) ∨ (prc p c' = prc p (gw (μ 7) m t) ∧ c' ≤ gw (μ 7) m t) := fun c' hc' t ht => by
      have := hy t ht
      omega
    have atg : ∀ c' : Int, (prc p c' < prc p g ∨ (prc p c' = prc p g ∧ c' ≤ g)) → ∀ t, t = s + 1 → prc p c' < prc p (gw (μ 7) m t) ∨ (prc p c' = prc p (gw (μ 7) m t) ∧ c' ≤ gw (μ 7) m t) := fun c' hc' t ht => by
      rw [ht, hg]; exact hc'
    rw [tmE hl1, aget_eq (by omega) (by omega), sb, e6, aget_eq (by omega) (by omega), sb, hq1, hq2, bnd_eq, e5]
    by_cases a1 : prc p g < prc p c
    · rw [if_pos a1, xt_cheapestLike_86, xt_cheapestLike_93, bnd_eq, e1]
      exact ih' g (by omega) (by omega) hl hel (fun t ht => by
        by_cases z : t = s + 1
        · exact atg g (Or.inr ⟨rfl, Int.le_refl _⟩) t z
        · exact old g (Or.inl a1) t (by omega))
    · rw [if_neg a1]
      by_cases a2 : prc p g = prc p c
      · rw [if_pos a2]
        by_cases a3 : c ≤ g
        · rw [if_pos a3, xt_cheapestLike_93, bnd_eq, e1]
          exact ih' c (by omega) (by omega) hcm he (fun t ht => by
            by_cases z : t = s + 1
            · exact atg c (Or.inr ⟨a2.symm, a3⟩) t z
            · exact hy t (by omega))
        · rw [if_neg a3, xt_cheapestLike_86, xt_cheapestLike_93, bnd_eq, e1]
          exact ih' g (by omega) (by omega) hl hel (fun t ht => by
            by_cases z : t = s + 1
            · exact atg g (Or.inr ⟨rfl, Int.le_refl _⟩) t z
            · exact old g (Or.inr ⟨a2, by omega⟩) t (by omega))
      · rw [if_neg a2, xt_cheapestLike_93, bnd_eq, e1]
        exact ih' c (by omega) (by omega) hcm he (fun t ht => by
          by_cases z : t = s + 1
          · exact atg c (Or.inl (by omega)) t z
          · exact hy t (by omega))
theorem LK_fr {μ μ' : Mem} {r : Nat → Int} {k : Nat} (h : LK μ r k) (e2 : ∀ q, μ' 2 q = μ 2 q) (e3 : ∀ q, μ' 3 q = μ 3 q) (e4 : ∀ q, μ' 4 q = μ 4 q) (e5 : ∀ q, μ' 5 q = μ 5 q) (e7 : ∀ q, μ' 7 q = μ 7 q) : LK μ' r k := by
  obtain ⟨h1, h2, h3, h4, h5, h6⟩ := h
  refine ⟨JT_fr h1 e2, ⟨by rw [e3]; exact h2.1, h2.2.1, fun j hj => by rw [e4]; exact h2.2.2 j hj⟩, by rw [e3]; exact h3, fun q hq => by rw [e5]; exact h4 q hq, fun x => (spn_cong (-5) 8 (fun j _ => e5 j) x).trans (h5 x), ?_⟩
  obtain ⟨R, a, b, c, d⟩ := h6
  exact ⟨R, a, by rw [e3]; exact b, fun q hq => by rw [e7]; exact c q hq, fun x => (spn_cong (-5) R (fun j _ => e7 j) x).trans (d x)⟩
theorem xcheap_eq {r : Nat → Int} {k : Nat} {μ : Mem} (h : LK μ r k) (hp : okP (μ 14)) {m : Int} (hm : isM m) : ∃ d μ', xt_cheapestLike m μ = some (d, μ') ∧ IsC (spn r (-5) k) (μ 14) m d ∧ (∀ p q, p ≠ 7 → p ≠ 3 → p ≠ 8 → p ≠ 9 → μ' p q = μ p q) ∧ LK μ' r k := by
  obtain ⟨μ2, a1, a2, a3⟩ := fc_lp hp 81 FU 0 μ (by omega) (by omega) (by have := FU_ge; omega) (fun q _ => rfl) (fun q hq => by omega)
  have hS := spn_sg r (-5) k
  have h14 : ∀ q, q < 8 → μ2 14 q = μ 14 q := fun q _ => a2 14 q (by decide) (by decide)
  have hK2 : LK μ2 r k := LK_fr h (fun q => a2 2 q (by decide) (by decide)) (fun q => a2 3 q (by decide) (by decide)) (fun q => a2 4 q (by decide) (by decide)) (fun q => a2 5 q (by decide) (by decide)) (fun q => a2 7 q (by decide) (by decide))
  obtain ⟨R, hR⟩ := hK2.2.2.2.2.2
  have hR : PRT μ2 R (spn r (-5) k) := hR
  have e0 : prc (μ2 14) m = prc (μ 14) m := prc_cong h14 m
  have hq := pw3_le hR.1
  have hq0 := pw3_pos R
  obtain ⟨d, b1, b2⟩ := xch_lp hS hK2.1 hR hp a3 hm (pw3 R - 1) FU 0 m (by omega) (by have := FU_ge; omega) hm (eqv_rf hS m) (fun t ht => by
    have : t = 0 := by omega
    subst this
    exact Or.inr ⟨rfl, Int.le_refl _⟩)
  refine ⟨d, μ2, ?_, b2, fun p q _ _ h8 h9 => a2 p q h8 h9, hK2⟩
  rw [xt_cheapestLike, xt_fillCosts, a1, sb, xprice_eq (fun q hq => by rw [h14 q hq]; exact hp q hq) hm, sb, e0]
  exact b1
/-! needless rules -/
theorem rulT_fr {μ μ' : Mem} {r : Nat → Int} {k : Nat} (h : rulT μ r k) (e3 : μ' 3 2 = μ 3 2) (e4 : ∀ q, μ' 4 q = μ 4 q) : rulT μ' r k := ⟨by rw [e3]; exact h.1, h.2.1, fun j hj => by rw [e4]; exact h.2.2 j hj⟩
/-- the first rule without which the strength is the same -/
def IsN (r : Nat → Int) (k : Nat) (v : Int) : Prop := (v = -5 ∧ ∀ i : Nat, i < k → rk r i k ≠ rk r (-5) k) ∨ ∃ i : Nat, i < k ∧ v = i ∧ rk r i k = rk r (-5) k ∧ ∀ q : Nat, q < i → rk r q k ≠ rk r (-5) k
theorem isN_un {r : Nat → Int} {k : Nat} {v w : Int} (h1 : IsN r k v) (h2 : IsN r k w) : v = w := by
  rcases h1 with ⟨a, b⟩ | ⟨i, a, b, c, d⟩ <;> rcases h2 with ⟨a', b'⟩ | ⟨i', a', b', c', d'⟩
  · omega
  · exact absurd c' (b i' a')
  · exact absurd c (b' i a)
  · rcases (show i = i' ∨ i < i' ∨ i' < i by omega) with q | q | q
    · omega
    · exact absurd c (d' i q)
    · exact absurd c' (d i' q)
theorem fn_lp {r : Nat → Int} {k : Nat} (j : Nat) : ∀ (n i : Nat) (μ : Mem), i + j = k → j < n → JT μ → rulT μ r k → μ 3 3 = rk r (-5) k → (∀ q : Nat, q < i → rk r q k ≠ rk r (-5) k) →
    ∃ v μ', xt_firstNeedless_2 n i μ = some (v, μ') ∧ IsN r k v ∧ ∀ p q, p ≠ 6 → μ' p q = μ p q := by
  induction j with
  | zero =>
    intro n i μ hi hn hJ hr hs hz
    obtain ⟨n, rfl⟩ : ∃ m, n = m + 1 := ⟨n - 1, by omega⟩
    have : i = k := by omega
    subst this
    exact ⟨-5, μ, by rw [xt_firstNeedless_2, hr.1, if_pos (by omega), xt_firstNeedless_34], Or.inl ⟨rfl, hz⟩, fun p q _ => rfl⟩
  | succ j ih =>
    intro n i μ hi hn hJ hr hs hz
    obtain ⟨n, rfl⟩ : ∃ m, n = m + 1 := ⟨n - 1, by omega⟩
    have hk := hr.2.1
    have e1 : w32 ((i : Int) + 1) = ((i + 1 : Nat) : Int) := by rw [w32_eq (by omega) (by omega)]; omega
    obtain ⟨μ1, a1, a2, a3, a4⟩ := findLeads_eq6 (b := i) hJ hr
    have hs1 : μ1 3 3 = rk r (-5) k := by rw [a2 3 3 (by decide)]; exact hs
    rw [xt_firstNeedless_2, hr.1, if_neg (by omega), a1, sb]
    by_cases h : rk r i k = rk r (-5) k
    · refine ⟨i, μ1, ?_, Or.inr ⟨i, by omega, rfl, h, hz⟩, a2⟩
      rw [if_pos (by show rk r i k = μ1 3 3; rw [hs1]; exact h), xt_firstNeedless_26]
    · obtain ⟨v, μ', o1, o2, o3⟩ := ih n (i + 1) μ1 (by omega) (by omega) (JT_fr hJ (fun q => a2 2 q (by decide))) (rulT_fr hr (a2 3 2 (by decide)) (fun q => a2 4 q (by decide))) hs1 (fun q hq => by
        by_cases c : q = i
        · subst c; exact h
        · exact hz q (by omega))
      exact ⟨v, μ', by rw [if_neg (by show ¬ rk r i k = μ1 3 3; rw [hs1]; exact h), bnd_eq, e1]; exact o1, o2, fun p q hp => by rw [o3 p q hp, a2 p q hp]⟩
theorem firstNeedless_eq {r : Nat → Int} {k : Nat} {μ : Mem} (h : LK μ r k) : ∃ v μ', xt_firstNeedless μ = some (v, μ') ∧ IsN r k v ∧ (∀ p q, p ≠ 6 → μ' p q = μ p q) ∧ LK μ' r k := by
  obtain ⟨v, μ', o1, o2, o3⟩ := fn_lp k FU 0 μ (by omega) (by have := FU_ge; have := h.2.1.2.1; omega) h.1 h.2.1 h.2.2.1 (fun q hq => by omega)
  exact ⟨v, μ', o1, o2, o3, LK_fr h (fun q => o3 2 q (by decide)) (fun q => o3 3 q (by decide)) (fun q => o3 4 q (by decide)) (fun q => o3 5 q (by decide)) (fun q => o3 7 q (by decide))⟩
