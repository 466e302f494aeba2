/-! a mix, read in both -/
section TXT4
variable {tx : Nat → Int} {len : Nat}
def mxF (tx : Nat → Int) (len : Nat) : Nat → Nat → (Nat → Int) → Nat × (Nat → Int)
  | 0, p, A => (p, A)
  | f + 1, p, A => if nxt tx len 97 104 p then (if nxt tx len 49 57 (p + 1) then mxF tx len f (p + 2) (up A (tx p - 97).toNat (A (tx p - 97).toNat + (tx (p + 1) - 48))) else mxF tx len f (p + 1) (up A (tx p - 97).toNat (A (tx p - 97).toNat + 1))) else (p, A)
def okA (A : Nat → Int) (p : Nat) : Prop := (∀ j, j < 8 → 0 ≤ A j) ∧ 2 * uS A 8 ≤ 9 * (p : Int)
theorem okA_up {A : Nat → Int} {p q s : Nat} {d : Int} (h : okA A p) (hs : s < 8) (h0 : 0 ≤ d) (hd : 2 * d ≤ 9 * ((q : Int) - p)) : okA (up A s (A s + d)) q := by
  refine ⟨fun j hj => ?_, ?_⟩
  · by_cases c : j = s
    · subst c; rw [up_same]; have := h.1 j hj; omega
    · rw [up_ne c]; exact h.1 j hj
  · rw [uS_up, if_pos hs]; have := h.2; omega
theorem mxF_b (f : Nat) : ∀ (p : Nat) (A : Nat → Int), p ≤ len → okA A p → p ≤ (mxF tx len f p A).1 ∧ (mxF tx len f p A).1 ≤ len ∧ okA (mxF tx len f p A).2 (mxF tx len f p A).1 := by
  induction f with
  | zero => intro p A hp h; rw [mxF]; exact ⟨Nat.le_refl _, hp, h⟩
  | succ f ih =>
    intro p A hp h
    rw [mxF]
    split
    · rename_i c
      have c1 := c.1
      have c2 := c.2
      split
      · rename_i d
        have d1 := d.1
        have d2 := d.2
        have := ih (p + 2) _ (by omega) (okA_up (s := (tx p - 97).toNat) (d := tx (p + 1) - 48) h (q := p + 2) (by omega) (by omega) (by omega))
        exact ⟨by omega, this.2⟩
      · have := ih (p + 1) _ (by omega) (okA_up (s := (tx p - 97).toNat) (d := 1) h (q := p + 1) (by omega) (by omega) (by omega))
        exact ⟨by omega, this.2⟩
    · exact ⟨Nat.le_refl _, hp, h⟩
/-- what the reference has gathered -/
def GA (a : Nat → Int) (A : Nat → Int) (μ : Mem) : Prop := (∀ j, j < 8 → μ 1 j = a j) ∧ μ 0 16 = uS A 8 ∧ μ 0 17 = pS a A 8
theorem mm104 {a A : Nat → Int} {p q s : Nat} {d : Int} {K : Int → Int → Mem → Option (Int × Mem)} {μ : Mem} (T : RT tx len μ) (R : RS2 μ true q) (G : GA a A μ) (hp : okP a) (hA : okA A p) (hpq : p ≤ q) (hq : q ≤ len) (hs : s < 8) (h0 : 0 ≤ d) (hd : d ≤ 9) : ∃ μ', mm_mix_68 K (mS A 8) (s : Int) d μ = K (mS (up A s (A s + d)) 8) (if nxt tx len 97 104 q then 1 else 0) μ' ∧ RS2 μ' true q ∧ GA a (up A s (A s + d)) μ' ∧ PF μ μ' := by
  have hl := T.2.1
  have r2 : μ 0 15 = 0 := R.2
  have hu := uS_1 hA.1 8 (Nat.le_refl _)
  have hps := pS_u hA.1 hp 8 (Nat.le_refl _)
  have h2 := hA.2
  have as := hp s hs
  have ha : 0 ≤ d * a s ∧ d * a s ≤ 891 := ⟨Int.mul_nonneg h0 as.1, by
    have h1 : d * a s ≤ 9 * a s := Int.mul_le_mul_of_nonneg_right hd as.1
    omega⟩
  have e84 := mx84_lp (K := K) (s := s) (d := d) (x3 := (s : Int)) hs d.toNat 0 FU A μ (by omega) (by omega) hd (by have := FU_ge; omega)
  rw [show ((d.toNat : Nat) : Int) = d by omega] at e84
  rw [mm_mix_68, r2, if_pos rfl, power_eq (by omega), sb, e84, mm_mix_104, G.2.1, w32_eq (by omega) (by omega), bnd_eq, aget_eq (by omega) (by omega), sb, Int.toNat_natCast, mst_ix (by decide), G.2.2, mst_pl (by decide), G.1 s hs, w32_eq (x := d * a s) (by omega) (by omega), w32_eq (by omega) (by omega), bnd_eq, mm_mix_133]
  generalize hμ : mst (mst μ 0 16 (uS A 8 + d)) 0 17 (pS a A 8 + d * a s) = μ'
  have f' : PF μ μ' := fun x y z => by
    rw [← hμ]
    by_cases c : x = 0
    · subst c; rw [mst_ix (by omega), mst_ix (by omega)]
    · rw [mst_pl c, mst_pl c]
  have R' : RS2 μ' true q := ⟨by rw [← hμ, mst_ix (by decide), mst_ix (by decide)]; exact R.1, by rw [← hμ, mst_ix (by decide), mst_ix (by decide)]; exact R.2⟩
  have G' : GA a (up A s (A s + d)) μ' := ⟨fun j hj => by rw [f' 1 j (Or.inl (by decide))]; exact G.1 j hj, by rw [← hμ, mst_ix (by decide), mst_same, uS_up, if_pos hs], by rw [← hμ, mst_same, pS_up, if_pos hs]⟩
  refine ⟨μ', ?_, R', G', f'⟩
  by_cases c : nxt tx len 97 104 q
  · rw [isNext_y (RT_fr T f') R' c, sb, if_pos c]
  · rw [isNext_n (RT_fr T f') R' (fun z => c z.2), sb, if_neg c]
theorem mmix_lp {a : Nat → Int} (hp : okP a) (j : Nat) : ∀ (p n : Nat) (A : Nat → Int) (μ : Mem), len ≤ p + j → p ≤ len → j < n → RT tx len μ → RS2 μ true p → GA a A μ → okA A p → ∃ μ', mm_mix_14 n (mS A 8) (if nxt tx len 97 104 p then 1 else 0) μ = some (mS (mxF tx len j p A).2 8, μ') ∧ RS2 μ' true (mxF tx len j p A).1 ∧ GA a (mxF tx len j p A).2 μ' ∧ PF μ μ' := by
  induction j with
  | zero =>
    intro p n A μ hl hpl hn T R G hA
    obtain ⟨n, rfl⟩ : ∃ m, n = m + 1 := ⟨n - 1, by omega⟩
    rw [if_neg (fun z => by have := z.1; omega), mm_mix_14, if_pos rfl, mm_mix_145, mxF]
    exact ⟨μ, rfl, R, G, PF_rf μ⟩
  | succ j ih =>
    intro p n A μ hl hpl hn T R G hA
    obtain ⟨n, rfl⟩ : ∃ m, n = m + 1 := ⟨n - 1, by omega⟩
    have h60 := T.2.1
    by_cases c : nxt tx len 97 104 p
    · have c1 := c.1
      have c2 := c.2
      have hs : (tx p - 97).toNat < 8 := by omega
      obtain ⟨μ1, e1, R1, f1, g1⟩ := sign_y T R c
      have T1 := RT_fr T f1
      have G1 : GA a A μ1 := ⟨fun q hq => by rw [f1 1 q (Or.inl (by decide))]; exact G.1 q hq, by rw [g1 _ (by decide) (by decide)]; exact G.2.1, by rw [g1 _ (by decide) (by decide)]; exact G.2.2⟩
      have hx : w32 (tx p - 97) = (((tx p - 97).toNat : Nat) : Int) := by rw [w32_eq (by omega) (by omega)]; omega
      rw [if_pos c, mm_mix_14, if_neg (by decide), e1, sb, hx, bnd_eq, mxF, if_pos c]
      dsimp only
      by_cases d : nxt tx len 49 57 (p + 1)
      · have d1 := d.1
        have d2 := d.2
        have R2 : RS2 (mst μ1 0 14 ((p : Int) + 2)) true (p + 2) := ⟨by rw [mst_same]; omega, by rw [mst_ix (by decide)]; exact R1.2⟩
        have f2 : PF μ1 (mst μ1 0 14 ((p : Int) + 2)) := PF_14 (PF_rf μ1) _
        have G2 : GA a A (mst μ1 0 14 ((p : Int) + 2)) := ⟨fun q hq => by rw [mst_pl (by decide)]; exact G1.1 q hq, by rw [mst_ix (by decide)]; exact G1.2.1, by rw [mst_ix (by decide)]; exact G1.2.2⟩
        rw [isNext_y T1 R1 d, sb, if_neg (by decide), R1.1, aget_eq (by omega) (by omega), sb, Int.toNat_natCast, (T1.2.2 (p + 1) d.1).1, w32_eq (x := tx (p + 1) - 48) (by omega) (by omega), bnd_eq, w32_eq (by omega) (by omega), bnd_eq, show (((p + 1 : Nat) : Int) + 1) = (p : Int) + 2 by omega, if_pos d]
        obtain ⟨μ2, e2, R3, G3, f3⟩ := mm104 (K := mm_mix_14 n) (p := p) (d := tx (p + 1) - 48) (RT_fr T1 f2) R2 G2 hp hA (by omega) (by omega) hs (by omega) (by omega)
        obtain ⟨μ', e, R', G', f'⟩ := ih (p + 2) n _ μ2 (by omega) (by omega) (by omega) (RT_fr T1 (PF_tr f2 f3)) R3 G3 (okA_up hA hs (by omega) (by omega))
        rw [e2, e]
        exact ⟨μ', rfl, R', G', PF_tr f1 (PF_tr f2 (PF_tr f3 f'))⟩
      · rw [isNext_n T1 R1 (fun z => d z.2), sb, if_pos rfl, if_neg d]
        obtain ⟨μ2, e2, R3, G3, f3⟩ := mm104 (K := mm_mix_14 n) (p := p) (d := 1) T1 R1 G1 hp hA (by omega) (by omega) hs (by omega) (by omega)
        obtain ⟨μ', e, R', G', f'⟩ := ih (p + 1) n _ μ2 (by omega) (by omega) (by omega) (RT_fr T1 f3) R3 G3 (okA_up hA hs (by omega) (by omega))
        rw [e2, e]
        exact ⟨μ', rfl, R', G', PF_tr f1 (PF_tr f3 f')⟩
    · rw [if_neg c, mm_mix_14, if_pos rfl, mm_mix_145, mxF, if_neg c]
      exact ⟨μ, rfl, R, G, PF_rf μ⟩
def noA : Nat → Int := fun _ => 0
theorem noA_ok (p : Nat) : okA noA p := ⟨fun _ _ => Int.le_refl 0, by rw [show uS noA 8 = 0 from rfl]; omega⟩
theorem mmix_y {a : Nat → Int} {μ : Mem} {p : Nat} (hp : okP a) (T : RT tx len μ) (R : RS2 μ true p) (ha : ∀ j, j < 8 → μ 1 j = a j) (h : nxt tx len 97 104 p) : ∃ μ', mm_mix μ = some (mS (mxF tx len (len - p) p noA).2 8, μ') ∧ RS2 μ' true (mxF tx len (len - p) p noA).1 ∧ GA a (mxF tx len (len - p) p noA).2 μ' ∧ PF μ μ' := by
  have h1 := h.1
  have hl := T.2.1
  have f0 : PF μ (mst (mst μ 0 16 0) 0 17 0) := fun x y z => by
    by_cases c : x = 0
    · subst c; rw [mst_ix (by omega), mst_ix (by omega)]
    · rw [mst_pl c, mst_pl c]
  obtain ⟨μ', e, R', G', f'⟩ := mmix_lp (a := a) hp (len - p) p FU noA (mst (mst μ 0 16 0) 0 17 0) (by omega) (by omega) (by have := FU_ge; omega) (RT_fr T f0) ⟨by rw [mst_ix (by decide), mst_ix (by decide)]; exact R.1, by rw [mst_ix (by decide), mst_ix (by decide)]; exact R.2⟩ ⟨fun j hj => by rw [f0 1 j (Or.inl (by decide))]; exact ha j hj, by rw [mst_ix (by decide), mst_same]; rfl, by rw [mst_same]; exact (show pS a noA 8 = 0 by simp [pS, noA]).symm⟩ (noA_ok p)
  rw [if_pos h, show mS noA 8 = 0 from rfl] at e
  exact ⟨μ', by rw [mm_mix, bnd_eq, bnd_eq, e], R', G', PF_tr f0 f'⟩
theorem mmix_n {μ : Mem} {p : Nat} {ok : Bool} (T : RT tx len μ) (R : RS2 μ ok p) (hp : p ≤ len) (h : ¬ (ok = true ∧ nxt tx len 97 104 p)) : ∃ v μ', mm_mix μ = some (v, μ') ∧ RS2 μ' false p ∧ PF μ μ' := by
  have f0 : PF μ (mst (mst μ 0 16 0) 0 17 0) := fun x y z => by
    by_cases c : x = 0
    · subst c; rw [mst_ix (by omega), mst_ix (by omega)]
    · rw [mst_pl c, mst_pl c]
  obtain ⟨n, hn⟩ : ∃ m, FU = m + 2 := ⟨FU - 2, by have := FU_ge; omega⟩
  obtain ⟨v, μ1, e1, R1, f1, g1, v0, v1⟩ := sign_n (lo := 97) (hi := 104) (RT_fr T f0) (ok := ok) ⟨by rw [mst_ix (by decide), mst_ix (by decide)]; exact R.1, by rw [mst_ix (by decide), mst_ix (by decide)]; exact R.2⟩ hp h
  have T1 := RT_fr T (PF_tr f0 f1)
  have r2 : μ1 0 15 = 1 := R1.2
  refine ⟨0, μ1, ?_, R1, PF_tr f0 f1⟩
  rw [mm_mix, bnd_eq, bnd_eq, hn, mm_mix_14, if_neg (by decide), e1, sb, bnd_eq, isNext_n T1 R1 (fun z => Bool.noConfusion z.1), sb, if_pos rfl, mm_mix_68]
  dsimp only
  rw [if_neg (show ¬ μ1 0 15 = 0 by omega), mm_mix_133, isNext_n T1 R1 (fun z => Bool.noConfusion z.1), sb, mm_mix_14, if_pos rfl, mm_mix_145]
end TXT4
