/-! the class's list of bland mixes; alike; the cheapest mix of a taste, of both -/
theorem lwl_lp {P : Int → Prop} {v c : Int} (hv : isM v) (hc : 0 < c ∧ 3 * c ≤ 6561) {bl : Nat → Int} (hb : ∀ q : Nat, (q : Int) < c → isM (bl q)) (j : Nat) : ∀ (n : Nat) (i : Int) (μ : Mem), i + j = c → 0 ≤ i → j < n → JT μ →
    (∀ q : Nat, (q : Int) < c → μ 7 q = bl q) → (∀ q : Nat, (q : Int) < i → μ 7 (c.toNat + q) = mx (bl q) v ∧ μ 7 (2 * c.toNat + q) = mx (mx (bl q) v) v) →
    ∃ μ', xt_listWithLead_7 n v c i μ = some (mst μ' 3 7 (3 * c)) ∧ (∀ p q, p ≠ 7 → μ' p q = μ p q) ∧ (∀ q : Nat, (q : Int) < c → μ' 7 q = bl q) ∧ (∀ q : Nat, (q : Int) < c → μ' 7 (c.toNat + q) = mx (bl q) v ∧ μ' 7 (2 * c.toNat + q) = mx (mx (bl q) v) v) := by
  induction j with
  | zero =>
    intro n i μ hi h0 hn hJ h1 h2
    obtain ⟨n, rfl⟩ : ∃ m, n = m + 1 := ⟨n - 1, by omega⟩
    exact ⟨μ, by rw [xt_listWithLead_7, if_pos (by omega), xt_listWithLead_66, bnd_eq, w32_eq (by omega) (by omega)], fun p q _ => rfl, h1, fun q hq => h2 q (by omega)⟩
  | succ j ih =>
    intro n i μ hi h0 hn hJ h1 h2
    obtain ⟨n, rfl⟩ : ∃ m, n = m + 1 := ⟨n - 1, by omega⟩
    have hbi := hb i.toNat (by omega)
    have ha := mx_isM (bl i.toNat) v
    have hbb := mx_isM (mx (bl i.toNat) v) v
    have e1 : w32 (i + 1) = i + 1 := w32_eq (by omega) (by omega)
    have e2 : w32 (c + i) = c + i := w32_eq (by omega) (by omega)
    have e3 : w32 (w32 (2 * c) + i) = 2 * c + i := by rw [w32_eq (x := 2 * c) (by omega) (by omega), w32_eq (by omega) (by omega)]
    have e4 : ∀ x, isM x → n16 (n16 x) = x := fun x hx => by
      have := hx.1
      have := hx.2
      rw [n16_id (x := x) (by omega), n16_id (by omega)]
    have t1 : (c + i).toNat = c.toNat + i.toNat := by omega
    have t2 : (2 * c + i).toNat = 2 * c.toNat + i.toNat := by omega
    rw [xt_listWithLead_7, if_neg (by omega), aget_eq h0 (by omega), sb, h1 i.toNat (by omega), join_eq hJ hbi hv, sb, e2, e4 _ ha, aput_eq (by omega) (by omega), sb, join_eq (JT_fr hJ (fun q => mst_pl (by decide))) ha hv, sb, e3, e4 _ hbb, aput_eq (by omega) (by omega), sb, bnd_eq, e1, t1, t2]
    have g1 : ∀ q : Nat, (q : Int) < c → (mst (mst μ 7 (c.toNat + i.toNat) (mx (bl i.toNat) v)) 7 (2 * c.toNat + i.toNat) (mx (mx (bl i.toNat) v) v)) 7 q = bl q := fun q hq => by
      rw [mst_ix (by omega), mst_ix (by omega)]; exact h1 q hq
    have g2 : ∀ q : Nat, (q : Int) < i + 1 → (mst (mst μ 7 (c.toNat + i.toNat) (mx (bl i.toNat) v)) 7 (2 * c.toNat + i.toNat) (mx (mx (bl i.toNat) v) v)) 7 (c.toNat + q) = mx (bl q) v ∧ (mst (mst μ 7 (c.toNat + i.toNat) (mx (bl i.toNat) v)) 7 (2 * c.toNat + i.toNat) (mx (mx (bl i.toNat) v) v)) 7 (2 * c.toNat + q) = mx (mx (bl q) v) v := fun q hq => by
      by_cases cq : q = i.toNat
      · subst cq
        exact ⟨by rw [mst_ix (by omega), mst_same], by rw [mst_same]⟩
      · have := h2 q (by omega)
        exact ⟨by rw [mst_ix (by omega), mst_ix (by omega)]; exact this.1, by rw [mst_ix (by omega), mst_ix (by omega)]; exact this.2⟩
    obtain ⟨μ', o1, o2, o3, o4⟩ := ih n (i + 1) _ (by omega) (by omega) (by omega) (JT_fr hJ (fun q => by rw [mst_pl (by decide), mst_pl (by decide)])) g1 g2
    exact ⟨μ', o1, fun p q hp => by rw [o2 p q hp, mst_pl hp, mst_pl hp], o3, o4⟩
/-- the list holds just the mixes of P -/
def LL (μ : Mem) (P : Int → Prop) : Prop := (∀ q : Nat, (q : Int) < μ 3 7 → P (μ 7 q)) ∧ ∀ x, P x → ∃ q : Nat, (q : Int) < μ 3 7 ∧ μ 7 q = x
theorem lwl_eq {P : Int → Prop} (hP : Sg P) {v : Int} (hv : isM v) {μ : Mem} (hJ : JT μ) (hc : 0 < μ 3 7 ∧ 3 * μ 3 7 ≤ 6561) (hL : LL μ P) : ∃ μ', xt_listWithLead v μ = some μ' ∧ (∀ p q, p ≠ 7 → p ≠ 3 → μ' p q = μ p q) ∧ (∀ q, q ≠ 7 → μ' 3 q = μ 3 q) ∧ μ' 3 7 = 3 * μ 3 7 ∧ LL μ' (ext P v) := by
  obtain ⟨μ', o1, o2, o3, o4⟩ := lwl_lp (P := P) hv hc (bl := fun q => μ 7 q) (fun q hq => hP.2.1 _ (hL.1 q hq)) (μ 3 7).toNat FU 0 μ (by omega) (by omega) (by have := FU_ge; omega) hJ (fun q _ => rfl) (fun q hq => by omega)
  refine ⟨mst μ' 3 7 (3 * μ 3 7), by rw [xt_listWithLead]; exact o1, fun p q h7 h3 => by rw [mst_pl h3, o2 p q h7], fun q hq => by rw [mst_ix hq, o2 3 q (by decide)], mst_same _ _ _ _, fun q hq => ?_, fun x hx => ?_⟩
  · rw [mst_same] at hq
    rw [mst_pl (by decide)]
    by_cases c1 : (q : Int) < μ 3 7
    · rw [o3 q c1]; exact Or.inl (hL.1 q c1)
    · by_cases c2 : (q : Int) < 2 * μ 3 7
      · obtain ⟨i, rfl⟩ : ∃ i, q = (μ 3 7).toNat + i := ⟨q - (μ 3 7).toNat, by omega⟩
        rw [(o4 i (by omega)).1]
        have hb := hL.1 i (by omega)
        have hm := hP.2.1 _ hb
        exact Or.inr ⟨mx_isM _ _, Or.inr (by rw [mx_assoc, mx_three, mx_zero hm]; exact hb)⟩
      · obtain ⟨i, rfl⟩ : ∃ i, q = 2 * (μ 3 7).toNat + i := ⟨q - 2 * (μ 3 7).toNat, by omega⟩
        rw [(o4 i (by omega)).2]
        have hb := hL.1 i (by omega)
        have hm := hP.2.1 _ hb
        exact Or.inr ⟨mx_isM _ _, Or.inl (by rw [mx_assoc, mx_assoc, mx_three, mx_zero hm]; exact hb)⟩
  · rw [mst_same]
    rcases hx with hx | ⟨hm, hx | hx⟩
    · obtain ⟨q, a, b⟩ := hL.2 x hx
      exact ⟨q, by omega, by rw [mst_pl (by decide), o3 q a]; exact b⟩
    · obtain ⟨q, a, b⟩ := hL.2 _ hx
      exact ⟨2 * (μ 3 7).toNat + q, by omega, by rw [mst_pl (by decide), (o4 q a).2, b, mx_assoc, mx_assoc, mx_three, mx_zero hm]⟩
    · obtain ⟨q, a, b⟩ := hL.2 _ hx
      exact ⟨(μ 3 7).toNat + q, by omega, by rw [mst_pl (by decide), (o4 q a).1, b, mx_assoc, mx_comm (mx v v), mx_three, mx_zero hm]⟩
theorem LL_cong {μ : Mem} {P Q : Int → Prop} (h : ∀ x, P x ↔ Q x) (hL : LL μ P) : LL μ Q := ⟨fun q hq => (h _).mp (hL.1 q hq), fun x hx => hL.2 x ((h x).mpr hx)⟩
theorem lbl_lp {l : Nat → Int} (hl : EL l) (j : Nat) : ∀ (k n : Nat) (μ : Mem), k + j = 8 → j < n → JT μ → (∀ q : Nat, q < 8 → μ 5 q = l q) → (0 < μ 3 7 ∧ μ 3 7 ≤ p3 k) → LL μ (spn l (-5) k) →
    ∃ μ', xt_listBland_22 n k μ = some μ' ∧ (∀ p q, p ≠ 7 → p ≠ 3 → μ' p q = μ p q) ∧ (∀ q, q ≠ 7 → μ' 3 q = μ 3 q) ∧ (0 < μ' 3 7 ∧ μ' 3 7 ≤ 6561) ∧ LL μ' (spn l (-5) 8) := by
  induction j with
  | zero =>
    intro k n μ hk hn hJ h5 hc hL
    obtain ⟨n, rfl⟩ : ∃ m, n = m + 1 := ⟨n - 1, by omega⟩
    have : k = 8 := by omega
    subst this
    exact ⟨μ, by rw [xt_listBland_22, if_pos (by omega), xt_listBland_53], fun p q _ _ => rfl, fun q _ => rfl, hc, hL⟩
  | succ j ih =>
    intro k n μ hk hn hJ h5 hc hL
    obtain ⟨n, rfl⟩ : ∃ m, n = m + 1 := ⟨n - 1, by omega⟩
    have e3 : w32 ((k : Int) + 1) = ((k + 1 : Nat) : Int) := by rw [w32_eq (by omega) (by omega)]; omega
    have hp : p3 (k + 1) ≤ 6561 := p3_mono (j := k + 1) (k := 8) (by omega)
    have hpk := p3_pos k
    rw [xt_listBland_22, if_neg (by omega), aget_eq (by omega) (by omega), sb, Int.toNat_natCast, h5 k (by omega)]
    by_cases h0 : l k = 0
    · rw [if_pos h0, xt_listBland_47, bnd_eq, e3]
      refine ih (k + 1) n μ (by omega) (by omega) hJ h5 ⟨hc.1, by simp only [p3]; omega⟩ (LL_cong (fun x => ?_) hL)
      rw [spn_ne l (-5) k (by omega), h0]
      exact (ext_zero (spn_sg l (-5) k).2.1 x).symm
    · simp only [p3] at hp
      obtain ⟨μ1, a1, a2, a3, a4, a5⟩ := lwl_eq (spn_sg l (-5) k) (EL_M hl (k := k) (by omega)) hJ ⟨hc.1, by omega⟩ hL
      rw [if_neg h0, sb, a1, sb, xt_listBland_47, bnd_eq, e3]
      obtain ⟨μ', o1, o2, o3, o4, o5⟩ := ih (k + 1) n μ1 (by omega) (by omega) (JT_fr hJ (fun q => a2 2 q (by decide) (by decide))) (fun q hq => by rw [a2 5 q (by decide) (by decide)]; exact h5 q hq) ⟨by omega, by simp only [p3]; omega⟩ (LL_cong (fun x => (spn_ne l (-5) k (by omega) x).symm) a5)
      exact ⟨μ', o1, fun p q h7 h3 => by rw [o2 p q h7 h3, a2 p q h7 h3], fun q hq => by rw [o3 q hq, a3 q hq], o4, o5⟩
theorem listBland_eq {r : Nat → Int} {k : Nat} {μ : Mem} (h : LK μ r k) : ∃ μ', xt_listBland μ = some μ' ∧ (∀ p q, p ≠ 7 → p ≠ 3 → μ' p q = μ p q) ∧ LK μ' r k ∧ (0 < μ' 3 7 ∧ μ' 3 7 ≤ 6561) ∧ LL μ' (spn r (-5) k) := by
  obtain ⟨h1, h2, h3, h4, h5, h6⟩ := h
  have go : μ 3 7 = 0 → ∃ μ', ((aput μ 7 6561 0 (n16 0)).bind fun μ1 => bnd (mst μ1 3 7 1) fun μ2 => xt_listBland_22 FU 0 μ2) = some μ' ∧ (∀ p q, p ≠ 7 → p ≠ 3 → μ' p q = μ p q) ∧ LK μ' r k ∧ (0 < μ' 3 7 ∧ μ' 3 7 ≤ 6561) ∧ LL μ' (spn r (-5) k) := by
    intro hz
    obtain ⟨μ', o1, o2, o3, o4, o5⟩ := lbl_lp h4 8 0 FU (mst (mst μ 7 0 0) 3 7 1) (by omega) (by have := FU_ge; omega) (JT_fr h1 (fun q => by rw [mst_pl (by decide), mst_pl (by decide)])) (fun q _ => by rw [mst_pl (by decide), mst_pl (by decide)]) (by rw [mst_same]; exact ⟨by decide, by decide⟩) ⟨fun q hq => by
        rw [mst_same] at hq
        have : q = 0 := by omega
        subst this
        rw [mst_pl (by decide), mst_same]
        rfl, fun x hx => ⟨0, by rw [mst_same]; decide, by rw [mst_pl (by decide), mst_same]; exact hx.symm⟩⟩
    have hLL := LL_cong h5 o5
    refine ⟨μ', ?_, fun p q h7 h3 => by rw [o2 p q h7 h3, mst_pl h3, mst_pl h7], ⟨JT_fr h1 (fun q => by rw [o2 2 q (by decide) (by decide), mst_pl (by decide), mst_pl (by decide)]), ⟨by rw [o3 2 (by decide), mst_ix (by decide), mst_pl (by decide)]; exact h2.1, h2.2.1, fun j hj => by rw [o2 4 j (by decide) (by decide), mst_pl (by decide), mst_pl (by decide)]; exact h2.2.2 j hj⟩, by rw [o3 3 (by decide), mst_ix (by decide), mst_pl (by decide)]; exact h3, ?_, ?_, Or.inr ⟨o4, hLL⟩⟩, o4, hLL⟩
    · rw [n16_id (by omega), aput_eq (by omega) (by omega), sb, bnd_eq]
      exact o1
    · exact fun k hk => by rw [o2 5 k (by decide) (by decide), mst_pl (by decide), mst_pl (by decide)]; exact h4 k hk
    · exact fun x => (spn_cong (-5) 8 (fun j _ => by rw [o2 5 j (by decide) (by decide), mst_pl (by decide), mst_pl (by decide)]) x).trans (h5 x)
  rw [xt_listBland]
  rcases h6 with h6 | ⟨a, b⟩
  · rw [if_pos (by omega)]
    exact go h6
  · rw [if_neg (by omega)]
    exact ⟨μ, rfl, fun p q _ _ => rfl, ⟨h1, h2, h3, h4, h5, Or.inr ⟨a, b⟩⟩, a, b⟩
theorem sbl_lp {μ : Mem} {v : Int} (hc : 0 < μ 3 7 ∧ μ 3 7 ≤ 6561) (j : Nat) : ∀ (n : Nat) (i : Int), i + j = μ 3 7 → 0 ≤ i → j < n → (∀ q : Nat, (q : Int) < i → μ 7 q ≠ v) → xt_someBlandLeads_24 n v i μ = some (bi (∃ q : Nat, (q : Int) < μ 3 7 ∧ μ 7 q = v), μ) := by
  induction j with
  | zero =>
    intro n i hi h0 hn hz
    obtain ⟨n, rfl⟩ : ∃ m, n = m + 1 := ⟨n - 1, by omega⟩
    rw [xt_someBlandLeads_24, if_pos (by omega), xt_someBlandLeads_52, bi_neg (fun ⟨q, a, b⟩ => hz q (by omega) b)]
  | succ j ih =>
    intro n i hi h0 hn hz
    obtain ⟨n, rfl⟩ : ∃ m, n = m + 1 := ⟨n - 1, by omega⟩
    have e1 : w32 (i + 1) = i + 1 := w32_eq (by omega) (by omega)
    rw [xt_someBlandLeads_24, if_neg (by omega), aget_eq h0 (by omega), sb]
    by_cases h : μ 7 i.toNat = v
    · rw [if_pos h, xt_someBlandLeads_44, bi_pos ⟨i.toNat, by omega, h⟩]
    · rw [if_neg h, bnd_eq, e1]
      exact ih n (i + 1) (by omega) (by omega) (by omega) (fun q hq => by
        by_cases c : q = i.toNat
        · subst c; exact h
        · exact hz q (by omega))
theorem someBland_eq {r : Nat → Int} {k : Nat} {μ : Mem} (h : LK μ r k) {a b : Int} (ha : isM a) (hb : isM b) : ∃ μ', xt_someBlandLeads a b μ = some (bi (spn r (-5) k (mx b (mx a a))), μ') ∧ (∀ p q, p ≠ 7 → p ≠ 3 → μ' p q = μ p q) ∧ LK μ' r k := by
  obtain ⟨μ', o1, o2, o3, o4, o5⟩ := listBland_eq h
  refine ⟨μ', ?_, o2, o3⟩
  rw [xt_someBlandLeads, o1, sb, twice_eq o3.1 ha, sb, join_eq o3.1 hb (mx_isM _ _), sb, sbl_lp o4 (μ' 3 7).toNat FU 0 (by omega) (by omega) (by have := FU_ge; omega) (fun q hq => by omega)]
  congr 2
  exact bi_cong ⟨fun ⟨q, x, y⟩ => by rw [← y]; exact o5.1 q x, fun x => o5.2 _ x⟩
/-! the cheapest mix of a taste -/
def IsC (S : Int → Prop) (p : Nat → Int) (m c : Int) : Prop := isM c ∧ eqv S m c ∧ ∀ y, isM y → eqv S m y → prc p c < prc p y ∨ (prc p c = prc p y ∧ c ≤ y)
theorem isC_un {S : Int → Prop} {p : Nat → Int} {m c d : Int} (h1 : IsC S p m c) (h2 : IsC S p m d) : c = d := by
  have a := h1.2.2 d h2.1 h2.2.1
  have b := h2.2.2 c h1.1 h1.2.1
  omega
theorem mch_lp {μ : Mem} {S : Int → Prop} (hS : Sg S) (hp : okP (μ 1)) (h7 : ∀ m, isM m → μ 7 m.toNat = tau S m) {m : Int} (hm : isM m) (j : Nat) : ∀ (n : Nat) (i c : Int), i + j = 6561 → 0 ≤ i → j < n → isM c → eqv S m c → (∀ y, isM y → y < i → eqv S m y → prc (μ 1) c < prc (μ 1) y ∨ (prc (μ 1) c = prc (μ 1) y ∧ c ≤ y)) → c < i →
    ∃ d, mm_cheapest_20 n (tau S m) c (prc (μ 1) c) i μ = some (d, μ) ∧ IsC S (μ 1) m d := by
  induction j with
  | zero =>
    intro n i c hi h0 hn hc he hy hci
    obtain ⟨n, rfl⟩ : ∃ m, n = m + 1 := ⟨n - 1, by omega⟩
    exact ⟨c, by rw [mm_cheapest_20, if_pos (by omega), mm_cheapest_67], hc, he, fun y a b => hy y a (by have := a.2; omega) b⟩
  | succ j ih =>
    intro n i c hi h0 hn hc he hy hci
    obtain ⟨n, rfl⟩ : ∃ m, n = m + 1 := ⟨n - 1, by omega⟩
    have hiM : isM i := ⟨h0, by omega⟩
    have e1 : w32 (i + 1) = i + 1 := w32_eq (by omega) (by omega)
    rw [mm_cheapest_20, if_neg (by omega), aget_eq h0 (by omega), sb, h7 i hiM]
    by_cases ht : tau S i = tau S m
    · have hei : eqv S m i := (tau_eq hS hm hiM).mp ht.symm
      rw [if_pos ht, mprice_eq hp hiM, sb]
      by_cases hpr : prc (μ 1) c ≤ prc (μ 1) i
      · rw [if_pos hpr, mm_cheapest_61, bnd_eq, e1]
        exact ih n (i + 1) c (by omega) (by omega) (by omega) hc he (fun y a b d => by
          by_cases q : y = i
          · subst q; omega
          · exact hy y a (by omega) d) (by omega)
      · rw [if_neg hpr, sb, mm_cheapest_61, bnd_eq, e1]
        exact ih n (i + 1) i (by omega) (by omega) (by omega) hiM hei (fun y a b d => by
          by_cases q : y = i
          · subst q; right; exact ⟨rfl, Int.le_refl _⟩
          · have := hy y a (by omega) d
            left; omega) (by omega)
    · rw [if_neg ht, mm_cheapest_61, bnd_eq, e1]
      exact ih n (i + 1) c (by omega) (by omega) (by omega) hc he (fun y a b d => by
        by_cases q : y = i
        · subst q; exact absurd ((tau_eq hS hm hiM).mpr d).symm ht
        · exact hy y a (by omega) d) (by omega)
