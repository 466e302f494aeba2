/-! units and prices, of both; the class's learning -/
theorem prk_term {d p : Int} (hd : 0 ≤ d ∧ d < 3) (hp : 0 ≤ p ∧ p ≤ 99) : 0 ≤ d * p ∧ d * p ≤ 198 := by
  rcases (show d = 0 ∨ d = 1 ∨ d = 2 by omega) with rfl | rfl | rfl <;> omega
/-- prices: eight from 0 to 99 -/
def okP (p : Nat → Int) : Prop := ∀ j, j < 8 → 0 ≤ p j ∧ p j ≤ 99
theorem prc_b {p : Nat → Int} (h : okP p) (m : Int) : 0 ≤ prc p m ∧ prc p m ≤ 1584 := by rw [prc_def]; exact prk_b 8 p m h
theorem div_p3k (m : Int) (k : Nat) : m / p3 k % 3 = dg k m := rfl
theorem xunits_lp {m : Int} (hm : isM m) (j : Nat) : ∀ (k n : Nat) (x : Int), k + j = 8 → j < n → 0 ≤ x → x ≤ 2 * k → xx_unitsOf_4 n m x k = some (x + unk j (m / p3 k)) := by
  induction j with
  | zero =>
    intro k n x hk hn _ _
    obtain ⟨n, rfl⟩ : ∃ m, n = m + 1 := ⟨n - 1, by omega⟩
    rw [xx_unitsOf_4, if_pos (by omega), xx_unitsOf_28]
    simp [unk]
  | succ j ih =>
    intro k n x hk hn hx hx2
    obtain ⟨n, rfl⟩ : ∃ m, n = m + 1 := ⟨n - 1, by omega⟩
    have hp := p3_pos k
    have hd := dg_b k m
    have e1 : w32 (x + Int.tmod (w32 (Int.tdiv m (p3 k))) 3) = x + dg k m := by rw [dg_m (by omega) hm, w32_eq (by omega) (by omega)]
    have e3 : w32 ((k : Int) + 1) = ((k + 1 : Nat) : Int) := by rw [w32_eq (by omega) (by omega)]; omega
    rw [xx_unitsOf_4, if_neg (by omega), pget_eq (by omega), sb, if_neg (by omega)]
    simp only [bnd_eq, e1, e3]
    rw [ih (k + 1) n _ (by omega) (by omega) (by omega) (by omega), div_p3s']
    simp only [unk]
    rw [Int.add_assoc, div_p3k]
theorem xunits_eq {m : Int} (hm : isM m) : xx_unitsOf m = some (un m) := by
  have := xunits_lp hm 8 0 FU 0 (by omega) (by have := FU_ge; omega) (by omega) (by omega)
  rw [show p3 0 = 1 from rfl, Int.ediv_one, Int.zero_add, ← un_def] at this
  exact this
theorem xprice_lp {μ : Mem} (hp : okP (μ 14)) {m : Int} (hm : isM m) (j : Nat) : ∀ (k n : Nat) (x : Int), k + j = 8 → j < n → 0 ≤ x → x ≤ 198 * k → xx_costOf_4 n m x k μ = some (x + prk j (fun i => μ 14 (k + i)) (m / p3 k)) := by
  induction j with
  | zero =>
    intro k n x hk hn _ _
    obtain ⟨n, rfl⟩ : ∃ m, n = m + 1 := ⟨n - 1, by omega⟩
    rw [xx_costOf_4, if_pos (by omega), xx_costOf_32]
    simp [prk]
  | succ j ih =>
    intro k n x hk hn hx hx2
    obtain ⟨n, rfl⟩ : ∃ m, n = m + 1 := ⟨n - 1, by omega⟩
    have hp3 := p3_pos k
    have hd := dg_b k m
    have ht := prk_term hd (hp k (by omega))
    have e1 : w32 (x + w32 (Int.tmod (w32 (Int.tdiv m (p3 k))) 3 * μ 14 k)) = x + dg k m * μ 14 k := by
      rw [dg_m (by omega) hm, w32_eq (x := dg k m * μ 14 k) (by omega) (by omega), w32_eq (by omega) (by omega)]
    have e3 : w32 ((k : Int) + 1) = ((k + 1 : Nat) : Int) := by rw [w32_eq (by omega) (by omega)]; omega
    rw [xx_costOf_4, if_neg (by omega), pget_eq (by omega), sb, if_neg (by omega), aget_eq (by omega) (by omega), sb, Int.toNat_natCast]
    simp only [bnd_eq, e1, e3]
    rw [ih (k + 1) n _ (by omega) (by omega) (by omega) (by omega), div_p3s']
    simp only [prk]
    rw [Int.add_assoc, Nat.add_zero, div_p3k]
    congr 3
    exact prk_cong j _ _ _ (fun i _ => by rw [show k + 1 + i = k + (i + 1) by omega])
theorem xprice_eq {μ : Mem} (hp : okP (μ 14)) {m : Int} (hm : isM m) : xx_costOf m μ = some (prc (μ 14) m) := by
  have := xprice_lp hp hm 8 0 FU 0 (by omega) (by have := FU_ge; omega) (by omega) (by omega)
  simp only [Nat.zero_add, Int.zero_add] at this
  rw [show p3 0 = 1 from rfl, Int.ediv_one] at this
  rw [xx_costOf, prc_def]
  exact this
theorem prc_cong {p q : Nat → Int} (h : ∀ j, j < 8 → p j = q j) (m : Int) : prc p m = prc q m := by rw [prc_def, prc_def]; exact prk_cong 8 p q m h
theorem prk_split (p : Nat → Int) (m : Int) : prk 8 p m = prk 8 p (m % 81) + prk 8 p (m / 81 * 81) := by
  simp only [prk]
  rw [show m % 81 % 3 = m % 3 by omega, show m % 81 / 3 % 3 = m / 3 % 3 by omega, show m % 81 / 3 / 3 % 3 = m / 3 / 3 % 3 by omega, show m % 81 / 3 / 3 / 3 % 3 = m / 3 / 3 / 3 % 3 by omega, show m % 81 / 3 / 3 / 3 / 3 = 0 by omega, show m / 81 * 81 % 3 = 0 by omega, show m / 81 * 81 / 3 % 3 = 0 by omega, show m / 81 * 81 / 3 / 3 % 3 = 0 by omega, show m / 81 * 81 / 3 / 3 / 3 % 3 = 0 by omega, show m / 81 * 81 / 3 / 3 / 3 / 3 = m / 3 / 3 / 3 / 3 by omega]
  simp
  omega
theorem n16_id {x : Int} (h : -32768 ≤ x ∧ x < 32768) : n16 x = x := by
  rw [n16_def]
  have e : (Int32.ofInt x).toInt = x := oi_toR (by unfold inR; omega)
  have : (Int32.ofInt x).toInt16.toInt32.toInt = (Int32.ofInt x).toInt16.toInt := Int16.toInt_toInt32 _
  rw [this, Int32.toInt_toInt16, e]
  unfold Int.bmod
  dsimp only
  split <;> omega
/-- the class's own rules -/
def rulX (μ : Mem) (r : Nat → Int) (k : Nat) : Prop := μ 10 5 = (k : Int) ∧ k ≤ 8 ∧ ∀ j, j < k → μ 13 j = r j ∧ isM (r j)
/-- the leads without gaps -/
def PB (μ : Mem) (S : Int → Prop) : Prop := ∃ R : Nat, R ≤ 8 ∧ μ 3 3 = (R : Int) ∧ (∀ q : Nat, q < R → isM (μ 7 q)) ∧ ∀ x, spn (μ 7) (-5) R x ↔ S x
/-- the Tastes know the rules r 0 .. below k -/
def LK (μ : Mem) (r : Nat → Int) (k : Nat) : Prop := JT μ ∧ rulT μ r k ∧ μ 3 3 = rk r (-5) k ∧ EL (μ 5) ∧ (∀ x, spn (μ 5) (-5) 8 x ↔ spn r (-5) k x) ∧ PB μ (spn r (-5) k)
def TI (μ : Mem) : Prop := ∃ r k, LK μ r k
theorem isL_lp {r q : Nat → Int} {k : Nat} {μ : Mem} (hx : rulX μ r k) (ht : rulT μ q k) (j : Nat) : ∀ (n i : Nat), i + j = k → j < n → (∀ p, p < i → r p = q p) → (xt_isLearned_15 n i μ = some 1 ∧ ∀ p, p < k → r p = q p) ∨ xt_isLearned_15 n i μ = some 0 := by
  induction j with
  | zero =>
    intro n i hi hn hp
    obtain ⟨n, rfl⟩ : ∃ m, n = m + 1 := ⟨n - 1, by omega⟩
    left
    refine ⟨by rw [xt_isLearned_15, ht.1, if_pos (by omega), xt_isLearned_46], fun p h => hp p (by omega)⟩
  | succ j ih =>
    intro n i hi hn hp
    obtain ⟨n, rfl⟩ : ∃ m, n = m + 1 := ⟨n - 1, by omega⟩
    have hk := ht.2.1
    have e3 : w32 ((i : Int) + 1) = ((i + 1 : Nat) : Int) := by rw [w32_eq (by omega) (by omega)]; omega
    rw [xt_isLearned_15, ht.1, if_neg (by omega), aget_eq (by omega) (by omega), sb, aget_eq (by omega) (by omega), sb, Int.toNat_natCast, (hx.2.2 i (by omega)).1, (ht.2.2 i (by omega)).1]
    by_cases h : r i = q i
    · rw [if_pos h, bnd_eq, e3]
      exact ih n (i + 1) (by omega) (by omega) (fun p hh => by
        by_cases c : p = i
        · subst c; exact h
        · exact hp p (by omega))
    · rw [if_neg h, xt_isLearned_38]
      exact Or.inr rfl
theorem LK_cong {μ : Mem} {r q : Nat → Int} {k : Nat} (h : LK μ q k) (e : ∀ p, p < k → r p = q p) : LK μ r k := by
  obtain ⟨h1, h2, h3, h4, h5, h6⟩ := h
  have hs := spn_cong (r := r) (q := q) (-5) k e
  refine ⟨h1, ⟨h2.1, h2.2.1, fun j hj => by rw [e j hj]; exact h2.2.2 j hj⟩, by rw [h3, rk_cong (-5) k e], h4, fun x => (h5 x).trans (hs x).symm, ?_⟩
  obtain ⟨R, a, b, c, d⟩ := h6
  exact ⟨R, a, b, c, fun x => (d x).trans (hs x).symm⟩
theorem cp_lp {l : Nat → Int} (hl : EL l) (j : Nat) : ∀ (i m n : Nat) (μ : Mem), i + j = 8 → j < n → (∀ q : Nat, q < 8 → μ 5 q = l q) → (m : Int) = cnt l i → (∀ q : Nat, q < m → isM (μ 7 q)) → (∀ x, spn (μ 7) (-5) m x ↔ spn l (-5) i x) →
    ∃ (μ' : Mem) (m' : Nat), xt_collectParts_4 n m i μ = some μ' ∧ (∀ p q, p ≠ 7 → μ' p q = μ p q) ∧ (m' : Int) = cnt l 8 ∧ (∀ q : Nat, q < m' → isM (μ' 7 q)) ∧ ∀ x, spn (μ' 7) (-5) m' x ↔ spn l (-5) 8 x := by
  induction j with
  | zero =>
    intro i m n μ hi hn h5 hm h7 hs
    obtain ⟨n, rfl⟩ : ∃ m, n = m + 1 := ⟨n - 1, by omega⟩
    have : i = 8 := by omega
    subst this
    exact ⟨μ, m, by rw [xt_collectParts_4, if_pos (by omega), xt_collectParts_40], fun p q _ => rfl, hm, h7, hs⟩
  | succ j ih =>
    intro i m n μ hi hn h5 hm h7 hs
    obtain ⟨n, rfl⟩ : ∃ m, n = m + 1 := ⟨n - 1, by omega⟩
    have hb := cnt_b l i
    have e1 : w32 ((i : Int) + 1) = ((i + 1 : Nat) : Int) := by rw [w32_eq (by omega) (by omega)]; omega
    have e2 : w32 ((m : Int) + 1) = ((m + 1 : Nat) : Int) := by rw [w32_eq (by omega) (by omega)]; omega
    rw [xt_collectParts_4, if_neg (by omega), aget_eq (by omega) (by omega), sb, Int.toNat_natCast, h5 i (by omega)]
    by_cases h0 : l i = 0
    · rw [if_pos h0, xt_collectParts_34, bnd_eq, e1]
      exact ih (i + 1) m n μ (by omega) (by omega) h5 (by simp only [cnt]; rw [if_pos h0]; omega) h7 (fun x => by
        rw [hs x, spn_ne l (-5) i (by omega), h0]
        exact (ext_zero (spn_sg l (-5) i).2.1 x).symm)
    · rw [if_neg h0, sb, aput_eq (by omega) (by omega), sb, bnd_eq, e2, xt_collectParts_34, bnd_eq, e1, Int.toNat_natCast]
      obtain ⟨μ', m', o1, o2, o3, o4, o5⟩ := ih (i + 1) (m + 1) n (mst μ 7 m (l i)) (by omega) (by omega) (fun q hq => by rw [mst_pl (by decide)]; exact h5 q hq) (by simp only [cnt]; rw [if_neg h0]; omega) (fun q hq => by
        by_cases c : q = m
        · subst c; rw [mst_same]; exact EL_M hl (by omega)
        · rw [mst_ix c]; exact h7 q (by omega)) (fun x => by
        rw [spn_ne _ (-5) m (by omega), spn_ne l (-5) i (by omega), mst_same]
        refine ext_cong (fun y => ?_) _ x
        rw [spn_cong (q := μ 7) (-5) m (fun q hq => mst_ix (by omega)), hs y])
      exact ⟨μ', m', o1, fun p q hp => by rw [o2 p q hp, mst_pl hp], o3, o4, o5⟩
theorem collect_eq {μ : Mem} (hl : EL (μ 5)) : ∃ (μ' : Mem) (m : Nat), xt_collectParts μ = some μ' ∧ (∀ p q, p ≠ 7 → μ' p q = μ p q) ∧ (m : Int) = cnt (μ 5) 8 ∧ (∀ q : Nat, q < m → isM (μ' 7 q)) ∧ ∀ x, spn (μ' 7) (-5) m x ↔ spn (μ 5) (-5) 8 x :=
  cp_lp hl 8 0 0 FU μ (by omega) (by have := FU_ge; omega) (fun _ _ => rfl) rfl (fun q hq => by omega) (fun _ => Iff.rfl)
/-- learn: afterwards the Tastes know the shop's rules -/
theorem learn_eq {r : Nat → Int} {k : Nat} {μ : Mem} (hT : TI μ) (hx : rulX μ r k) : ∃ μ', xt_learn μ = some μ' ∧ (∀ p q, p ≠ 3 → p ≠ 4 → p ≠ 5 → p ≠ 7 → μ' p q = μ p q) ∧ LK μ' r k := by
  obtain ⟨q, kq, hq⟩ := hT
  have hrest : ∃ μ', (bnd (mst μ 3 2 (μ 10 5)) fun μ2 => (acopy μ2 13 4 8 8 0 0 (μ2 3 2)).bind fun μ3 => (xt_findLeads (-1) μ3).bind fun p4 => bnd (mst p4.2 3 3 p4.1) fun μ5 => (xt_collectParts μ5).bind fun μ6 => some μ6) = some μ' ∧ (∀ p q, p ≠ 3 → p ≠ 4 → p ≠ 5 → p ≠ 7 → μ' p q = μ p q) ∧ LK μ' r k := by
    have hk := hx.2.1
    have ea : acopy (mst μ 3 2 (μ 10 5)) 13 4 8 8 0 0 ((mst μ 3 2 (μ 10 5)) 3 2) = some (mcp (mst μ 3 2 (μ 10 5)) 13 4 0 0 k) := by
      rw [mst_same, hx.1, acopy, if_pos (by omega), Int.toNat_natCast]
      rfl
    have hr3 : rulT (mcp (mst μ 3 2 (μ 10 5)) 13 4 0 0 k) r k := by
      refine ⟨?_, hk, fun j hj => ⟨?_, (hx.2.2 j hj).2⟩⟩
      · unfold mcp
        rw [if_neg (by omega), mst_same]
        exact hx.1
      · unfold mcp
        rw [if_pos (by omega), mst_pl (by decide), show 0 + (j - 0) = j by omega]
        exact (hx.2.2 j hj).1
    have hfr3 : ∀ p z, p ≠ 3 → p ≠ 4 → (mcp (mst μ 3 2 (μ 10 5)) 13 4 0 0 k) p z = μ p z := fun p z h3 h4 => by
      unfold mcp
      rw [if_neg (fun h => h4 h.1), mst_pl h3]
    have hJ3 : JT (mcp (mst μ 3 2 (μ 10 5)) 13 4 0 0 k) := JT_fr hq.1 (fun z => hfr3 2 z (by decide) (by decide))
    obtain ⟨μ4, o1, o2, o3, o4, o5⟩ := findLeads_eq (b := -1) hJ3 hr3
    have h5 : ∀ q, (mst μ4 3 3 (rk r (-1) k)) 5 q = μ4 5 q := fun q => mst_pl (by decide)
    obtain ⟨μ6, m, c1, c2, c3, c4, c5⟩ := collect_eq (μ := mst μ4 3 3 (rk r (-1) k)) (fun k hk => by rw [h5]; exact o3 k hk)
    have hcc : cnt ((mst μ4 3 3 (rk r (-1) k)) 5) 8 = rk r (-1) k := by
      rw [show (mst μ4 3 3 (rk r (-1) k)) 5 = μ4 5 from funext h5]; exact o5
    have hs8 : ∀ x, spn ((mst μ4 3 3 (rk r (-1) k)) 5) (-5) 8 x ↔ spn r (-5) k x := fun x => by
      rw [spn_cong (q := μ4 5) (-5) 8 (fun j _ => h5 j), o4 x]
      exact spn_neg r (by decide) (by decide) k x
    have h33 : μ6 3 3 = rk r (-1) k := by rw [c2 3 3 (by decide), mst_same]
    have hrb := rk_b r (-1) k
    refine ⟨μ6, ?_, fun p z h3 h4 h5 h7 => ?_, ?_⟩
    · rw [bnd_eq, ea, sb, o1, sb, bnd_eq, c1, sb]
    · rw [c2 p z h7, mst_pl h3, o2 p z h5, hfr3 p z h3 h4]
    · refine ⟨JT_fr hJ3 (fun z => by rw [c2 2 z (by decide), mst_pl (by decide), o2 2 z (by decide)]), ⟨?_, hk, fun j hj => ?_⟩, ?_, ?_, fun x => ?_, ⟨m, by omega, by rw [h33, c3, hcc], c4, fun x => (c5 x).trans (hs8 x)⟩⟩
      · rw [c2 3 2 (by decide), mst_ix (by decide), o2 3 2 (by decide)]; exact hr3.1
      · rw [c2 4 j (by decide), mst_pl (by decide), o2 4 j (by decide)]; exact hr3.2.2 j hj
      · rw [h33, rk_neg r (b := -1) (b' := -5) (by decide) (by decide)]
      · exact fun k hk => by rw [c2 5 k (by decide), h5]; exact o3 k hk
      · rw [spn_cong (q := (mst μ4 3 3 (rk r (-1) k)) 5) (-5) 8 (fun j _ => c2 5 j (by decide))]
        exact hs8 x
  rw [xt_learn, xt_isLearned]
  by_cases hc : μ 10 5 = μ 3 2
  · have hkk : kq = k := by
      have := hq.2.1.1
      have := hx.1
      omega
    subst hkk
    rw [if_pos hc]
    rcases isL_lp hx hq.2.1 kq FU 0 (by omega) (by have := FU_ge; have := hx.2.1; omega) (fun p hp => by omega) with ⟨h1, h2⟩ | h1
    · have e0 : ((0 : Nat) : Int) = 0 := rfl
      rw [e0] at h1
      rw [h1, sb, if_neg (by decide)]
      exact ⟨μ, rfl, fun p q _ _ _ _ => rfl, LK_cong hq h2⟩
    · have e0 : ((0 : Nat) : Int) = 0 := rfl
      rw [e0] at h1
      rw [h1, sb, if_pos rfl]
      exact hrest
  · rw [if_neg hc, sb, if_pos rfl]
    exact hrest
theorem leastLike_eq {r : Nat → Int} {k : Nat} {μ : Mem} (h : LK μ r k) {m : Int} (hm : isM m) : xt_leastLike m μ = some (tau (spn r (-5) k) m) := by
  rw [xt_leastLike, reduced_eq h.1 h.2.2.2.1 hm, sb, ← red_tau h.2.2.2.1 hm]
  congr 1
  exact tau_cong h.2.2.2.2.1 (spn_sg _ _ _) hm
