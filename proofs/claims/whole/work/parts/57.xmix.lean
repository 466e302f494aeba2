/-! a mix, read in the class -/
section TXT5
variable {tx : Nat → Int} {len : Nat}
theorem xfill65_lp (j : Nat) : ∀ (k n : Nat) (μ : Mem), k + j = 8 → j < n → (∀ q, q < k → μ 65 q = 0) → ∃ μ', jf_fill_c65_5 n 0 k 8 μ = some μ' ∧ (∀ q, q < 8 → μ' 65 q = 0) ∧ ∀ p q, p ≠ 65 → μ' p q = μ p q := by
  induction j with
  | zero =>
    intro k n μ hk hn h
    obtain ⟨n, rfl⟩ : ∃ m, n = m + 1 := ⟨n - 1, by omega⟩
    rw [jf_fill_c65_5, if_pos (by omega), jf_fill_c65_20]
    exact ⟨μ, rfl, fun q hq => h q (by omega), fun _ _ _ => rfl⟩
  | succ j ih =>
    intro k n μ hk hn h
    obtain ⟨n, rfl⟩ : ∃ m, n = m + 1 := ⟨n - 1, by omega⟩
    have e3 : w32 ((k : Int) + 1) = ((k + 1 : Nat) : Int) := by rw [w32_eq (by omega) (by omega)]; omega
    rw [jf_fill_c65_5, if_neg (by omega), aput_eq (by omega) (by omega), sb, bnd_eq, e3, Int.toNat_natCast]
    obtain ⟨μ', e, r, f⟩ := ih (k + 1) n (mst μ 65 k 0) (by omega) (by omega) (fun q hq => by
      by_cases c : q = k
      · subst c; rw [mst_same]
      · rw [mst_ix c]; exact h q (by omega))
    exact ⟨μ', e, r, fun p q hp => by rw [f p q hp, mst_pl hp]⟩
def frM (ν ν' : Mem) : Prop := ∀ a b, (a ≠ 63 ∨ b ≠ 2) → a ≠ 65 → ν' a b = ν a b
theorem XT_frM {ν ν' : Mem} (T : XT tx len ν) (f : frM ν ν') : XT tx len ν' := ⟨by rw [f _ _ (by decide) (by decide)]; exact T.1, T.2.1, fun i hi => by rw [f 64 i (Or.inl (by decide)) (by decide)]; exact T.2.2 i hi⟩
theorem frM_2 (ν : Mem) (v : Int) : frM ν (mst ν 63 2 v) := fun a b z _ => by
  by_cases c : a = 63
  · subst c; exact mst_ix (by omega)
  · exact mst_pl c
theorem frM_65 (ν : Mem) (i : Nat) (v : Int) : frM ν (mst ν 65 i v) := fun a b _ h => mst_pl h
theorem frM_tr {a b c : Mem} (h : frM a b) (g : frM b c) : frM a c := fun p q z y => by rw [g p q z y, h p q z y]
theorem xmix_lp {x1 : Int} (j : Nat) : ∀ (p n : Nat) (x2 : Int) (A : Nat → Int) (ν : Mem), len ≤ p + j → p ≤ len → j < n → 0 ≤ x2 → x2 + ((len : Int) - p) ≤ 60 → XT tx len ν → ν 63 2 = (p : Int) → (∀ q, q < 8 → ν 65 q = A q) → okA A p → ∃ ν', xw_readMix_15 n x1 x2 ν = xw_readMix_90 x1 ν' ∧ ν' 63 2 = (((mxF tx len j p A).1 : Nat) : Int) ∧ (∀ q, q < 8 → ν' 65 q = (mxF tx len j p A).2 q) ∧ frM ν ν' := by
  induction j with
  | zero =>
    intro p n x2 A ν hl hpl hn h0 h2 T R h65 hA
    obtain ⟨n, rfl⟩ : ∃ m, n = m + 1 := ⟨n - 1, by omega⟩
    rw [xw_readMix_15, mxF]
    refine ⟨ν, ?_, R, h65, fun _ _ _ _ => rfl⟩
    by_cases e : 60 ≤ x2
    · rw [if_pos e]
    · rw [if_neg e, spice_n T R (fun z => by have := z.1; omega), sb, if_pos (by decide)]
  | succ j ih =>
    intro p n x2 A ν hl hpl hn h0 h2 T R h65 hA
    obtain ⟨n, rfl⟩ : ∃ m, n = m + 1 := ⟨n - 1, by omega⟩
    have h60 := T.2.1
    by_cases c : nxt tx len 97 104 p
    · have c1 := c.1
      have c2 := c.2
      have hs : (tx p - 97).toNat < 8 := by omega
      have f1 := frM_2 ν ((p : Int) + 1)
      have T1 := XT_frM T f1
      have R1 : mst ν 63 2 ((p : Int) + 1) 63 2 = ((p + 1 : Nat) : Int) := by rw [mst_same]; omega
      have as := hA.1 _ hs
      have au := (uS_1 hA.1 8 (Nat.le_refl _)).2 _ hs
      have a2 := hA.2
      have gen : ∀ (ρ : Mem) (v5 d : Int) (q : Nat), frM ν ρ → ρ 63 2 = (q : Int) → (if v5 ≤ 0 then 1 else v5) = d → 0 ≤ d → d ≤ 9 → p < q → q ≤ len → 2 * d ≤ 9 * ((q : Int) - p) → len ≤ q + j → (∀ r, r < 8 → ρ 65 r = A r) → ∃ ν', xw_readMix_64 (xw_readMix_15 n) x1 x2 (tx p - 97) v5 ρ = xw_readMix_90 x1 ν' ∧ ν' 63 2 = (((mxF tx len j q (up A (tx p - 97).toNat (A (tx p - 97).toNat + d))).1 : Nat) : Int) ∧ (∀ r, r < 8 → ν' 65 r = (mxF tx len j q (up A (tx p - 97).toNat (A (tx p - 97).toNat + d))).2 r) ∧ frM ν ν' := fun ρ v5 d q fρ Rρ hd d0 d9 hpq hq h2d hlq h65ρ => by
        have fin : ∃ ν', xw_readMix_82 (xw_readMix_15 n) x1 x2 (tx p - 97) (A (tx p - 97).toNat) d ρ = xw_readMix_90 x1 ν' ∧ ν' 63 2 = (((mxF tx len j q (up A (tx p - 97).toNat (A (tx p - 97).toNat + d))).1 : Nat) : Int) ∧ (∀ r, r < 8 → ν' 65 r = (mxF tx len j q (up A (tx p - 97).toNat (A (tx p - 97).toNat + d))).2 r) ∧ frM ν ν' := by
          rw [xw_readMix_82, w32_eq (by omega) (by omega), aput_eq (by omega) (by omega), sb, w32_eq (by omega) (by omega), bnd_eq]
          have f3 := frM_65 ρ (tx p - 97).toNat (A (tx p - 97).toNat + d)
          obtain ⟨ν', e1, e2, e3, e4⟩ := ih q n (x2 + 1) (up A (tx p - 97).toNat (A (tx p - 97).toNat + d)) (mst ρ 65 (tx p - 97).toNat (A (tx p - 97).toNat + d)) hlq hq (by omega) (by omega) (by omega) (XT_frM T (frM_tr fρ f3)) (by rw [mst_pl (by decide)]; exact Rρ) (fun r hr => by
            by_cases z : r = (tx p - 97).toNat
            · subst z; rw [mst_same, up_same]
            · rw [mst_ix z, up_ne z]; exact h65ρ r hr) (okA_up hA hs d0 h2d)
          exact ⟨ν', e1, e2, e3, frM_tr (frM_tr fρ f3) e4⟩
        rw [xw_readMix_64, aget_eq (by omega) (by omega), sb, h65ρ _ hs]
        by_cases z : v5 ≤ 0
        · rw [if_pos z] at hd
          rw [if_pos z, hd]; exact fin
        · rw [if_neg z] at hd
          rw [if_neg z, hd]; exact fin
      have h65' : ∀ v r, r < 8 → mst ν 63 2 v 65 r = A r := fun v r hr => by rw [mst_pl (by decide)]; exact h65 r hr
      rw [xw_readMix_15, if_neg (by omega), spice_y T R c, sb, if_neg (by omega), sb, R, w32_eq (by omega) (by omega), bnd_eq, mxF, if_pos c]
      by_cases d : nxt tx len 48 57 (p + 1)
      · have d1 := d.1
        have d2 := d.2
        rw [digit_y T1 R1 d, sb]
        by_cases e : nxt tx len 49 57 (p + 1)
        · have ee := e.2
          rw [if_pos e, if_neg (by omega), R1, w32_eq (by omega) (by omega), bnd_eq]
          have f2 := frM_tr f1 (frM_2 (mst ν 63 2 ((p : Int) + 1)) (((p + 1 : Nat) : Int) + 1))
          exact gen _ (tx (p + 1) - 48) (tx (p + 1) - 48) (p + 2) f2 (by rw [mst_same]; omega) (by rw [if_neg (by omega)]) (by omega) (by omega) (by omega) (by omega) (by omega) (by omega) (fun r hr => by rw [mst_pl (by decide)]; exact h65' _ r hr)
        · have ee : tx (p + 1) = 48 := by
            by_cases y : tx (p + 1) = 48
            · exact y
            · exact absurd ⟨d.1, by omega, d.2.2⟩ e
          rw [if_neg e, if_pos (by omega)]
          exact gen _ (tx (p + 1) - 48) 1 (p + 1) f1 R1 (by rw [if_pos (by omega)]) (by omega) (by omega) (by omega) (by omega) (by omega) (by omega) (h65' _)
      · have e : ¬ nxt tx len 49 57 (p + 1) := fun z => d ⟨z.1, by have := z.2.1; omega, z.2.2⟩
        rw [digit_n T1 R1 d, sb, if_pos (by decide), if_neg e]
        exact gen _ (-5) 1 (p + 1) f1 R1 (by rw [if_pos (by decide)]) (by omega) (by omega) (by omega) (by omega) (by omega) (by omega) (h65' _)
    · rw [xw_readMix_15, mxF, if_neg c]
      refine ⟨ν, ?_, R, h65, fun _ _ _ _ => rfl⟩
      by_cases e : 60 ≤ x2
      · rw [if_pos e]
      · rw [if_neg e, spice_n T R c, sb, if_pos (by decide)]
theorem mxF_gt {p : Nat} {A : Nat → Int} (hA : okA A p) (h : nxt tx len 97 104 p) : p < (mxF tx len (len - p) p A).1 := by
  have h1 := h.1
  have h2 := h.2
  obtain ⟨f, hf⟩ : ∃ f, len - p = f + 1 := ⟨len - p - 1, by omega⟩
  rw [hf, mxF, if_pos h]
  split
  · rename_i d
    have d1 := d.1
    have d2 := d.2
    have := (mxF_b (tx := tx) (len := len) f (p + 2) _ (by omega) (okA_up (s := (tx p - 97).toNat) (d := tx (p + 1) - 48) hA (q := p + 2) (by omega) (by omega) (by omega))).1
    omega
  · have := (mxF_b (tx := tx) (len := len) f (p + 1) _ (by omega) (okA_up (s := (tx p - 97).toNat) (d := 1) hA (q := p + 1) (by omega) (by omega) (by omega))).1
    omega
theorem xmix_y {ν : Mem} {p : Nat} (T : XT tx len ν) (R : ν 63 2 = (p : Int)) (h : nxt tx len 97 104 p) : ∃ ν', xw_readMix ν = some (1, ν') ∧ ν' 63 2 = (((mxF tx len (len - p) p noA).1 : Nat) : Int) ∧ (∀ q, q < 8 → ν' 65 q = (mxF tx len (len - p) p noA).2 q) ∧ frM ν ν' := by
  have h1 := h.1
  have hl := T.2.1
  have hg := mxF_gt (noA_ok p) h
  obtain ⟨ν1, e1, r1, f1⟩ := xfill65_lp 8 0 FU ν (by omega) (by have := FU_ge; omega) (fun q hq => by omega)
  rw [show ((0 : Nat) : Int) = 0 from rfl] at e1
  have F1 : frM ν ν1 := fun a b _ h => f1 a b h
  have R1 : ν1 63 2 = (p : Int) := by rw [f1 _ _ (by decide)]; exact R
  obtain ⟨ν', e, e2, e3, e4⟩ := xmix_lp (x1 := (p : Int)) (len - p) p FU 0 noA ν1 (by omega) (by omega) (by have := FU_ge; omega) (by omega) (by omega) (XT_frM T F1) R1 r1 (noA_ok p)
  refine ⟨ν', ?_, e2, e3, frM_tr F1 e4⟩
  rw [xw_readMix, jf_fill_c65, e1, sb, R1, e, xw_readMix_90, e2, if_neg (by omega), xw_readMix_103, if_pos (Or.inr rfl)]
theorem xmix_n {ν : Mem} {p : Nat} (T : XT tx len ν) (R : ν 63 2 = (p : Int)) (hp : p ≤ len) (h : ¬ nxt tx len 97 104 p) : ∃ ν', xw_readMix ν = some (0, ν') ∧ ν' 63 2 = (p : Int) ∧ frM ν ν' := by
  have hl := T.2.1
  obtain ⟨ν1, e1, r1, f1⟩ := xfill65_lp 8 0 FU ν (by omega) (by have := FU_ge; omega) (fun q hq => by omega)
  rw [show ((0 : Nat) : Int) = 0 from rfl] at e1
  have F1 : frM ν ν1 := fun a b _ h => f1 a b h
  have R1 : ν1 63 2 = (p : Int) := by rw [f1 _ _ (by decide)]; exact R
  obtain ⟨n, hn⟩ : ∃ m, FU = m + 1 := ⟨FU - 1, by have := FU_ge; omega⟩
  refine ⟨ν1, ?_, R1, F1⟩
  rw [xw_readMix, jf_fill_c65, e1, sb, R1, hn, xw_readMix_15, if_neg (by decide), spice_n (XT_frM T F1) R1 h, sb, if_pos (by decide), xw_readMix_90, R1, if_pos (by omega), xw_readMix_103, if_pos (Or.inl rfl)]
end TXT5
