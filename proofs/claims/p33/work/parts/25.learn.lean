/-! the class: sums of mixes by the table, leads of the rules, tastes -/
def JT (μ : Mem) : Prop := ∀ a b : Int, 0 ≤ a → a < 81 → 0 ≤ b → b < 81 → μ 2 (a * 81 + b).toNat = madd 4 a b
theorem JT_fr {μ μ' : Mem} (h : JT μ) (e : ∀ q, μ' 2 q = μ 2 q) : JT μ' := fun a b h1 h2 h3 h4 => by rw [e]; exact h a b h1 h2 h3 h4
theorem madd_split (k : Nat) : ∀ (j : Nat) (a b : Int), madd (k + j) a b = madd k a b + p3 k * madd j (a / p3 k) (b / p3 k) := by
  induction k with
  | zero => intro j a b; simp [madd, p3]
  | succ k ih =>
    intro j a b
    rw [show k + 1 + j = (k + j) + 1 by omega]
    simp only [madd]
    rw [ih, div_p3s, div_p3s, p3, Int.mul_add, Int.mul_assoc, Int.add_assoc]
theorem madd4_mod (a b : Int) : madd 4 (a % 81) (b % 81) = madd 4 a b := by
  simp only [madd]
  rw [show a % 81 % 3 = a % 3 by omega, show b % 81 % 3 = b % 3 by omega, show a % 81 / 3 % 3 = a / 3 % 3 by omega, show b % 81 / 3 % 3 = b / 3 % 3 by omega, show a % 81 / 3 / 3 % 3 = a / 3 / 3 % 3 by omega, show b % 81 / 3 / 3 % 3 = b / 3 / 3 % 3 by omega, show a % 81 / 3 / 3 / 3 % 3 = a / 3 / 3 / 3 % 3 by omega, show b % 81 / 3 / 3 / 3 % 3 = b / 3 / 3 / 3 % 3 by omega]
theorem madd4_b (a b : Int) : 0 ≤ madd 4 a b ∧ madd 4 a b < 81 := ⟨madd_nn 4 a b, madd_lt 4 a b⟩
theorem mx_halves (a b : Int) : mx a b = madd 4 (a / 81) (b / 81) * 81 + madd 4 (a % 81) (b % 81) := by
  have h := madd_split 4 4 a b
  rw [mx_def, show (8 : Nat) = 4 + 4 from rfl, h, madd4_mod, show p3 4 = 81 from rfl]
  omega
theorem join_eq {μ : Mem} (h : JT μ) {a b : Int} (ha : isM a) (hb : isM b) : xj_join a b μ = some (mx a b) := by
  have hb1 := ha.1; have hb2 := ha.2; have hb3 := hb.1; have hb4 := hb.2
  have k1 := madd4_b (a / 81) (b / 81)
  have k2 := madd4_b (a % 81) (b % 81)
  have e1 : w32 (w32 (w32 (Int.tdiv a 81) * 81) + w32 (Int.tdiv b 81)) = a / 81 * 81 + b / 81 := by
    rw [tdE hb1, tdE hb3, w32_eq (x := a / 81) (by omega) (by omega), w32_eq (x := b / 81) (by omega) (by omega), w32_eq (x := a / 81 * 81) (by omega) (by omega), w32_eq (by omega) (by omega)]
  have e2 : w32 (w32 (Int.tmod a 81 * 81) + Int.tmod b 81) = a % 81 * 81 + b % 81 := by
    rw [tmE hb1, tmE hb3, w32_eq (x := a % 81 * 81) (by omega) (by omega), w32_eq (by omega) (by omega)]
  rw [xj_join, e1, e2, aget_eq (by omega) (by omega), sb, aget_eq (by omega) (by omega), sb, h _ _ (by omega) (by omega) (by omega) (by omega), h _ _ (by omega) (by omega) (by omega) (by omega), w32_eq (x := madd 4 (a / 81) (b / 81) * 81) (by omega) (by omega), w32_eq (by omega) (by omega), mx_halves]
theorem twice_eq {μ : Mem} (h : JT μ) {a : Int} (ha : isM a) : xj_twice a μ = some (mx a a) := by rw [xj_twice, join_eq h ha ha, sb]
theorem pow3_p3 {k : Nat} (h : k < 9) : pow3 k = p3 k := by
  rcases (show k = 0 ∨ k = 1 ∨ k = 2 ∨ k = 3 ∨ k = 4 ∨ k = 5 ∨ k = 6 ∨ k = 7 ∨ k = 8 by omega) with rfl | rfl | rfl | rfl | rfl | rfl | rfl | rfl | rfl <;> rfl
theorem pget_eq {k : Nat} (h : k < 9) : pget (k : Int) = some (p3 k) := by
  rw [pget, if_pos (by omega), Int.toNat_natCast, pow3_p3 h]
theorem p3_le {k : Nat} (h : k < 8) : p3 k ≤ 2187 := p3_mono (j := k) (k := 7) (by omega)
theorem dg_m {k : Nat} (hk : k < 8) {x : Int} (hx : isM x) : Int.tmod (w32 (Int.tdiv x (p3 k))) 3 = dg k x := by
  have hp := p3_pos k
  have h1 : 0 ≤ x / p3 k := Int.ediv_nonneg hx.1 (p3_nn k)
  have h2 : x / p3 k ≤ x := Int.ediv_le_self _ hx.1
  have h3 := hx.2
  rw [tdE hx.1, w32_eq (by omega) (by omega), tmE h1]
  rfl
theorem high_lp {x : Int} (hx : isM x) (h0 : x ≠ 0) : ∀ (k n : Nat), k < 8 → k < n → x < p3 (k + 1) → ∃ s : Nat, s < 8 ∧ xt_highestSpice_3 n x k = some (s : Int) ∧ p3 s ≤ x ∧ x < p3 (s + 1) := by
  intro k
  induction k with
  | zero =>
    intro n hk hn hl
    obtain ⟨n, rfl⟩ : ∃ m, n = m + 1 := ⟨n - 1, by omega⟩
    have := hx.1
    exact ⟨0, by omega, by rw [xt_highestSpice_3, if_pos (by omega), xt_highestSpice_22], by show (1 : Int) ≤ x; omega, hl⟩
  | succ k ih =>
    intro n hk hn hl
    obtain ⟨n, rfl⟩ : ∃ m, n = m + 1 := ⟨n - 1, by omega⟩
    have e1 : w32 (((k + 1 : Nat) : Int) + -1) = (k : Int) := by rw [w32_eq (by omega) (by omega)]; omega
    rw [xt_highestSpice_3, if_neg (by omega), pget_eq (by omega), sb]
    by_cases h : p3 (k + 1) ≤ x
    · exact ⟨k + 1, hk, by rw [if_pos h, xt_highestSpice_22], h, hl⟩
    · obtain ⟨s, a1, a2, a3⟩ := ih n (by omega) (by omega) (by omega)
      exact ⟨s, a1, by rw [if_neg h, bnd_eq, e1]; exact a2, a3⟩
theorem high_eq {x : Int} (hx : isM x) (h0 : x ≠ 0) : ∃ s : Nat, s < 8 ∧ xt_highestSpice x = some (s : Int) ∧ p3 s ≤ x ∧ x < p3 (s + 1) := high_lp hx h0 7 FU (by omega) (by have := FU_ge; omega) hx.2
theorem dg_top {s : Nat} {x : Int} (h1 : p3 s ≤ x) (h2 : x < p3 (s + 1)) : x / p3 s = dg s x ∧ (dg s x = 1 ∨ dg s x = 2) := by
  have hp := p3_pos s
  have a : 0 < x / p3 s := by
    have := Int.ediv_le_ediv hp h1
    rw [Int.ediv_self (by omega)] at this
    omega
  have b : x / p3 s < 3 := by
    rw [Int.ediv_lt_iff_lt_mul hp]
    simp only [p3] at h2
    omega
  unfold dg
  omega
/-- the class's rules as the Tastes hold them -/
def rulT (μ : Mem) (r : Nat → Int) (k : Nat) : Prop := μ 3 2 = (k : Int) ∧ k ≤ 8 ∧ ∀ j, j < k → μ 4 j = r j ∧ isM (r j)
theorem red_lp {μ : Mem} (h : JT μ) (hl : EL (μ 5)) : ∀ (k n : Nat) (x : Int), k ≤ 8 → k < n → isM x → xt_reduced_6 n x ((k : Int) - 1) μ = some (red (μ 5) k x) := by
  intro k
  induction k with
  | zero =>
    intro n x _ hn hx
    obtain ⟨n, rfl⟩ : ∃ m, n = m + 1 := ⟨n - 1, by omega⟩
    rw [xt_reduced_6, if_pos (by omega), xt_reduced_77, red]
  | succ k ih =>
    intro n x hk hn hx
    obtain ⟨n, rfl⟩ : ∃ m, n = m + 1 := ⟨n - 1, by omega⟩
    have e0 : (((k + 1 : Nat) : Int) - 1) = (k : Int) := by omega
    have e1 : w32 ((k : Int) + -1) = (k : Int) - 1 := by rw [w32_eq (by omega) (by omega)]; omega
    have hp := p3_pos k
    have hlk := EL_M hl (k := k) (by omega)
    have hd := dg_b k x
    rw [xt_reduced_6, e0, if_neg (by omega), aget_eq (by omega) (by omega), sb, Int.toNat_natCast, red]
    unfold rst
    by_cases h0 : μ 5 k = 0
    · rw [if_pos h0, if_pos h0, xt_reduced_32, if_pos (by omega), xt_reduced_52, if_neg (by omega), xt_reduced_71, bnd_eq, e1]
      exact ih n x (by omega) (by omega) hx
    · rw [if_neg h0, if_neg h0, pget_eq (by omega), sb, if_neg (by omega), dg_m (by omega) hx, xt_reduced_32]
      by_cases h1 : dg k x = 0
      · rw [if_pos (by omega), if_pos h1, xt_reduced_52, if_neg (by omega), xt_reduced_71, bnd_eq, e1]
        exact ih n x (by omega) (by omega) hx
      · rw [if_neg (by omega), if_neg h1, aget_eq (by omega) (by omega), sb, Int.toNat_natCast, join_eq h hx hlk, sb, xt_reduced_52]
        by_cases h2 : dg k x = 1
        · rw [if_pos h2, if_pos h2, aget_eq (by omega) (by omega), sb, Int.toNat_natCast, join_eq h (mx_isM _ _) hlk, sb, xt_reduced_71, bnd_eq, e1]
          exact ih n _ (by omega) (by omega) (mx_isM _ _)
        · rw [if_neg h2, if_neg h2, xt_reduced_71, bnd_eq, e1]
          exact ih n _ (by omega) (by omega) (mx_isM _ _)
theorem reduced_eq {μ : Mem} (h : JT μ) (hl : EL (μ 5)) {x : Int} (hx : isM x) : xt_reduced x μ = some (red (μ 5) 8 x) := red_lp h hl 8 FU x (by omega) (by have := FU_ge; omega) hx
theorem fill_lp (j : Nat) : ∀ (n : Nat) (i : Int) (μ : Mem), i + j = 8 → 0 ≤ i → j < n → (∀ q : Nat, (q : Int) < i → μ 5 q = 0) → ∃ μ', jf_fill_5 n 0 i 8 μ = some μ' ∧ (∀ p q, p ≠ 5 → μ' p q = μ p q) ∧ ∀ q : Nat, q < 8 → μ' 5 q = 0 := by
  induction j with
  | zero =>
    intro n i μ hi h0 hn hz
    obtain ⟨n, rfl⟩ : ∃ m, n = m + 1 := ⟨n - 1, by omega⟩
    exact ⟨μ, by rw [jf_fill_5, if_pos (by omega), jf_fill_20], fun p q _ => rfl, fun q hq => hz q (by omega)⟩
  | succ j ih =>
    intro n i μ hi h0 hn hz
    obtain ⟨n, rfl⟩ : ∃ m, n = m + 1 := ⟨n - 1, by omega⟩
    have e1 : w32 (i + 1) = i + 1 := w32_eq (by omega) (by omega)
    rw [jf_fill_5, if_neg (by omega), aput_eq h0 (by omega), sb, bnd_eq, e1]
    obtain ⟨μ', a1, a2, a3⟩ := ih n (i + 1) (mst μ 5 i.toNat 0) (by omega) (by omega) (by omega) (fun q hq => by
      by_cases c : q = i.toNat
      · subst c; rw [mst_same]
      · rw [mst_ix c]; exact hz q (by omega))
    exact ⟨μ', a1, fun p q hp => by rw [a2 p q hp, mst_pl hp], a3⟩
theorem fill_eq (μ : Mem) : ∃ μ', jf_fill 0 μ = some μ' ∧ (∀ p q, p ≠ 5 → μ' p q = μ p q) ∧ ∀ q : Nat, q < 8 → μ' 5 q = 0 := fill_lp 8 FU 0 μ (by omega) (by omega) (by have := FU_ge; omega) (fun q hq => by omega)
/-- how many leads there are -/
def cnt (l : Nat → Int) : Nat → Int
  | 0 => 0
  | k + 1 => cnt l k + (if l k = 0 then 0 else 1)
theorem cnt_b (l : Nat → Int) (k : Nat) : 0 ≤ cnt l k ∧ cnt l k ≤ k := by
  induction k with
  | zero => simp only [cnt]; omega
  | succ k ih => simp only [cnt]; split <;> omega
theorem cnt_0 {l : Nat → Int} (h : ∀ q : Nat, q < 8 → l q = 0) : ∀ k, k ≤ 8 → cnt l k = 0 := by
  intro k
  induction k with
  | zero => intro _; rfl
  | succ k ih => intro hk; simp only [cnt]; rw [ih (by omega), if_pos (h k (by omega))]; rfl
theorem cnt_more {l l' : Nat → Int} {s : Nat} (h0 : l s = 0) (h1 : l' s ≠ 0) (h2 : ∀ j, j < 8 → j ≠ s → l' j = l j) : ∀ k, k ≤ 8 → (k ≤ s → cnt l' k = cnt l k) ∧ (s < k → cnt l' k = cnt l k + 1) := by
  intro k
  induction k with
  | zero => intro _; exact ⟨fun _ => rfl, fun z => by omega⟩
  | succ k ih =>
    intro hk
    obtain ⟨i1, i2⟩ := ih (by omega)
    refine ⟨fun hk2 => ?_, fun hk2 => ?_⟩
    · simp only [cnt]
      rw [i1 (by omega), h2 k (by omega) (by omega)]
    · simp only [cnt]
      by_cases e : k = s
      · subst e
        rw [i1 (Nat.le_refl _), if_neg h1, if_pos h0]
        omega
      · rw [i2 (by omega), h2 k (by omega) e]
        omega
theorem fl_lp {r : Nat → Int} {k : Nat} {b : Int} (j : Nat) : ∀ (i n : Nat) (μ : Mem), i + j = k → j < n → JT μ → rulT μ r k → EL (μ 5) → (∀ x, spn (μ 5) (-5) 8 x ↔ spn r b i x) → cnt (μ 5) 8 = rk r b i →
    ∃ μ', xt_findLeads_10 n b (rk r b i) i μ = some (rk r b k, μ') ∧ (∀ p q, p ≠ 5 → μ' p q = μ p q) ∧ EL (μ' 5) ∧ (∀ x, spn (μ' 5) (-5) 8 x ↔ spn r b k x) ∧ cnt (μ' 5) 8 = rk r b k := by
  induction j with
  | zero =>
    intro i n μ hi hn hJ hr hl hs hcn
    obtain ⟨n, rfl⟩ : ∃ m, n = m + 1 := ⟨n - 1, by omega⟩
    have : i = k := by omega
    subst this
    exact ⟨μ, by rw [xt_findLeads_10, hr.1, if_pos (by omega), xt_findLeads_107], fun p q _ => rfl, hl, hs, hcn⟩
  | succ j ih =>
    intro i n μ hi hn hJ hr hl hs hcn
    obtain ⟨n, rfl⟩ : ∃ m, n = m + 1 := ⟨n - 1, by omega⟩
    obtain ⟨hr1, hr2, hr3⟩ := hr
    have hri := hr3 i (by omega)
    have e1 : w32 ((i : Int) + 1) = ((i + 1 : Nat) : Int) := by rw [w32_eq (by omega) (by omega)]; omega
    have hsl := spn_sg (μ 5) (-5) 8
    rw [xt_findLeads_10, hr1, if_neg (by omega)]
    by_cases hb : (i : Int) = b
    · rw [if_pos hb, xt_findLeads_41, if_pos rfl, xt_findLeads_101, bnd_eq, e1]
      have e3 : rk r b i = rk r b (i + 1) := by simp only [rk]; rw [bi_neg (fun z => z.1 hb)]; omega
      rw [e3]
      exact ih (i + 1) n μ (by omega) (by omega) hJ ⟨hr1, hr2, hr3⟩ hl (fun x => (hs x).trans (spn_eq r b i hb x).symm) (hcn.trans e3)
    · rw [if_neg hb, aget_eq (by omega) (by omega), sb, Int.toNat_natCast, hri.1, reduced_eq hJ hl hri.2, sb, xt_findLeads_41]
      have ht := red_tau hl hri.2
      have h0 := tau_0 hsl hri.2
      rw [ht] at h0
      by_cases hz : red (μ 5) 8 (r i) = 0
      · have hin : spn r b i (r i) := (hs _).mp (h0.mp hz)
        rw [if_pos hz, xt_findLeads_101, bnd_eq, e1]
        have e3 : rk r b i = rk r b (i + 1) := by simp only [rk]; rw [bi_neg (fun z => z.2 hin)]; omega
        rw [e3]
        exact ih (i + 1) n μ (by omega) (by omega) hJ ⟨hr1, hr2, hr3⟩ hl (fun x => (hs x).trans ((spn_ne r b i hb x).trans (ext_in (spn_sg r b i) hin x)).symm) (hcn.trans e3)
      · have hnin : ¬ spn r b i (r i) := fun z => hz (h0.mpr ((hs _).mpr z))
        have hrm := red_M (l := μ 5) 8 hri.2
        obtain ⟨s, s1, s2, s3, s4⟩ := high_eq hrm hz
        obtain ⟨d1, d2⟩ := dg_top s3 s4
        have hp := p3_pos s
        have hrk := rk_b r b i
        have hls : μ 5 s = 0 := by
          rcases Classical.em (μ 5 s = 0) with q | q
          · exact q
          · have := red_dg hl 8 (Nat.le_refl _) (r i) s s1 q
            omega
        have e2 : w32 (Int.tdiv (red (μ 5) 8 (r i)) (p3 s)) = dg s (red (μ 5) 8 (r i)) := by
          rw [tdE hrm.1, d1, w32_eq (by omega) (by omega)]
        have e4 : w32 (rk r b i + 1) = rk r b (i + 1) := by rw [w32_eq (by omega) (by omega)]; simp only [rk]; rw [bi_pos ⟨hb, hnin⟩]
        rw [if_neg hz, s2, sb, pget_eq (by omega), sb, if_neg (by omega), e2]
        -- the value of the new lead
        have key : ∃ v, isM v ∧ p3 s ≤ v ∧ v < 2 * p3 s ∧ (v = red (μ 5) 8 (r i) ∨ v = mx (red (μ 5) 8 (r i)) (red (μ 5) 8 (r i))) ∧ (if dg s (red (μ 5) 8 (r i)) = 1 then xt_findLeads_73 (xt_findLeads_10 n) b (rk r b i) i (red (μ 5) 8 (r i)) s 1 μ else xt_findLeads_73 (xt_findLeads_10 n) b (rk r b i) i (red (μ 5) 8 (r i)) s 0 μ) = xt_findLeads_10 n b (rk r b (i + 1)) ((i + 1 : Nat) : Int) (mst μ 5 s v) := by
          by_cases hd : dg s (red (μ 5) 8 (r i)) = 1
          · refine ⟨_, hrm, s3, ?_, Or.inl rfl, ?_⟩
            · rw [hd] at d1
              have := (Int.ediv_eq_iff_of_pos hp).mp d1
              omega
            · rw [if_pos hd, xt_findLeads_73, if_neg (by decide), xt_findLeads_97, aput_eq (by omega) (by omega), sb, bnd_eq, e4, xt_findLeads_101, bnd_eq, e1, Int.toNat_natCast]
          · have hd2 : dg s (red (μ 5) 8 (r i)) = 2 := by omega
            have hm := mx_isM (red (μ 5) 8 (r i)) (red (μ 5) 8 (r i))
            have hlt := mx_lt (k := s + 1) (by omega) ⟨hrm.1, s4⟩ ⟨hrm.1, s4⟩
            have hdd : dg s (mx (red (μ 5) 8 (r i)) (red (μ 5) 8 (r i))) = 1 := by rw [dg_mx s1, hd2]; rfl
            have hq : mx (red (μ 5) 8 (r i)) (red (μ 5) 8 (r i)) / p3 s = 1 := by
              have b3 : mx (red (μ 5) 8 (r i)) (red (μ 5) 8 (r i)) / p3 s < 3 := by
                rw [Int.ediv_lt_iff_lt_mul hp]
                simp only [p3] at hlt
                omega
              have b0 : 0 ≤ mx (red (μ 5) 8 (r i)) (red (μ 5) 8 (r i)) / p3 s := Int.ediv_nonneg hm.1 (p3_nn s)
              unfold dg at hdd
              omega
            have hq2 := (Int.ediv_eq_iff_of_pos hp).mp hq
            refine ⟨_, hm, by omega, by omega, Or.inr rfl, ?_⟩
            rw [if_neg hd, xt_findLeads_73, if_pos rfl, twice_eq hJ hrm, sb, xt_findLeads_97, aput_eq (by omega) (by omega), sb, bnd_eq, e4, xt_findLeads_101, bnd_eq, e1, Int.toNat_natCast]
        obtain ⟨v, v1, v2, v3, v4, v5⟩ := key
        rw [v5]
        have hl' : EL ((mst μ 5 s v) 5) := fun k hk => by
          by_cases c : k = s
          · subst c; rw [mst_same]; exact Or.inr ⟨v2, v3⟩
          · rw [mst_ix c]; exact hl k hk
        have hs' : ∀ x, spn ((mst μ 5 s v) 5) (-5) 8 x ↔ spn r b (i + 1) x := by
          intro x
          rw [(lead_more hl s1 hls (l' := (mst μ 5 s v) 5) (v := v) (mst_same _ _ _ _) (fun j _ hj => mst_ix hj) 8 (Nat.le_refl _)).2 s1 x]
          have a1 : ext (spn (μ 5) (-5) 8) v x ↔ ext (spn (μ 5) (-5) 8) (red (μ 5) 8 (r i)) x := by
            rcases v4 with v4 | v4
            · rw [v4]
            · rw [v4]; exact ext_dbl _ hrm x
          rw [a1, ← ext_eqv hsl hri.2 (red_eqv hl 8 (Nat.le_refl _) hri.2) hrm x, ext_cong hs]
          exact (spn_ne r b i hb x).symm
        have hcn' : cnt ((mst μ 5 s v) 5) 8 = rk r b (i + 1) := by
          rw [(cnt_more hls (l' := (mst μ 5 s v) 5) (by rw [mst_same]; omega) (fun j _ hj => mst_ix hj) 8 (Nat.le_refl _)).2 s1, hcn]
          simp only [rk]
          rw [bi_pos ⟨hb, hnin⟩]
        obtain ⟨μ', o1, o2, o3⟩ := ih (i + 1) n (mst μ 5 s v) (by omega) (by omega) (JT_fr hJ (fun q => mst_pl (by decide))) ⟨by rw [mst_pl (by decide)]; exact hr1, hr2, fun j hj => by rw [mst_pl (by decide)]; exact hr3 j hj⟩ hl' hs' hcn'
        exact ⟨μ', o1, fun p q hp => by rw [o2 p q hp, mst_pl hp], o3⟩
theorem EL_0 {l : Nat → Int} (h : ∀ q : Nat, q < 8 → l q = 0) : EL l := fun k hk => Or.inl (h k hk)
theorem spn_0 {l : Nat → Int} (h : ∀ q : Nat, q < 8 → l q = 0) : ∀ k, k ≤ 8 → ∀ x, spn l (-5) k x ↔ x = 0 := by
  intro k
  induction k with
  | zero => intro _ x; exact Iff.rfl
  | succ k ih =>
    intro hk x
    rw [spn_ne l (-5) k (by omega), h k (by omega), ext_zero (spn_sg l (-5) k).2.1]
    exact ih (by omega) x
theorem findLeads_eq {r : Nat → Int} {k : Nat} {b : Int} {μ : Mem} (hJ : JT μ) (hr : rulT μ r k) : ∃ μ', xt_findLeads b μ = some (rk r b k, μ') ∧ (∀ p q, p ≠ 5 → μ' p q = μ p q) ∧ EL (μ' 5) ∧ (∀ x, spn (μ' 5) (-5) 8 x ↔ spn r b k x) ∧ cnt (μ' 5) 8 = rk r b k := by
  obtain ⟨μ1, a1, a2, a3⟩ := fill_eq μ
  obtain ⟨μ', o1, o2, o3⟩ := fl_lp (r := r) (k := k) (b := b) k 0 FU μ1 (by omega) (by have := FU_ge; have := hr.2.1; omega) (JT_fr hJ (fun q => a2 2 q (by decide))) ⟨by rw [a2 3 2 (by decide)]; exact hr.1, hr.2.1, fun j hj => by rw [a2 4 j (by decide)]; exact hr.2.2 j hj⟩ (EL_0 a3) (spn_0 a3 8 (Nat.le_refl _)) (by rw [cnt_0 a3 8 (Nat.le_refl _)]; rfl)
  exact ⟨μ', by rw [xt_findLeads, a1, sb]; exact o1, fun p q hp => by rw [o2 p q hp, a2 p q hp], o3⟩
theorem red_lp6 {μ : Mem} (h : JT μ) (hl : EL (μ 6)) : ∀ (k n : Nat) (x : Int), k ≤ 8 → k < n → isM x → xt_reduced_c6_6 n x ((k : Int) - 1) μ = some (red (μ 6) k x) := by
  intro k
  induction k with
  | zero =>
    intro n x _ hn hx
    obtain ⟨n, rfl⟩ : ∃ m, n = m + 1 := ⟨n - 1, by omega⟩
    rw [xt_reduced_c6_6, if_pos (by omega), xt_reduced_c6_77, red]
  | succ k ih =>
    intro n x hk hn hx
    obtain ⟨n, rfl⟩ : ∃ m, n = m + 1 := ⟨n - 1, by omega⟩
    have e0 : (((k + 1 : Nat) : Int) - 1) = (k : Int) := by omega
    have e1 : w32 ((k : Int) + -1) = (k : Int) - 1 := by rw [w32_eq (by omega) (by omega)]; omega
    have hp := p3_pos k
    have hlk := EL_M hl (k := k) (by omega)
    have hd := dg_b k x
    rw [xt_reduced_c6_6, e0, if_neg (by omega), aget_eq (by omega) (by omega), sb, Int.toNat_natCast, red]
    unfold rst
    by_cases h0 : μ 6 k = 0
    · rw [if_pos h0, if_pos h0, xt_reduced_c6_32, if_pos (by omega), xt_reduced_c6_52, if_neg (by omega), xt_reduced_c6_71, bnd_eq, e1]
      exact ih n x (by omega) (by omega) hx
    · rw [if_neg h0, if_neg h0, pget_eq (by omega), sb, if_neg (by omega), dg_m (by omega) hx, xt_reduced_c6_32]
      by_cases h1 : dg k x = 0
      · rw [if_pos (by omega), if_pos h1, xt_reduced_c6_52, if_neg (by omega), xt_reduced_c6_71, bnd_eq, e1]
        exact ih n x (by omega) (by omega) hx
      · rw [if_neg (by omega), if_neg h1, aget_eq (by omega) (by omega), sb, Int.toNat_natCast, join_eq h hx hlk, sb, xt_reduced_c6_52]
        by_cases h2 : dg k x = 1
        · rw [if_pos h2, if_pos h2, aget_eq (by omega) (by omega), sb, Int.toNat_natCast, join_eq h (mx_isM _ _) hlk, sb, xt_reduced_c6_71, bnd_eq, e1]
          exact ih n _ (by omega) (by omega) (mx_isM _ _)
        · rw [if_neg h2, if_neg h2, xt_reduced_c6_71, bnd_eq, e1]
          exact ih n _ (by omega) (by omega) (mx_isM _ _)
theorem reduced_eq6 {μ : Mem} (h : JT μ) (hl : EL (μ 6)) {x : Int} (hx : isM x) : xt_reduced_c6 x μ = some (red (μ 6) 8 x) := red_lp6 h hl 8 FU x (by omega) (by have := FU_ge; omega) hx
theorem fill_lp6 (j : Nat) : ∀ (n : Nat) (i : Int) (μ : Mem), i + j = 8 → 0 ≤ i → j < n → (∀ q : Nat, (q : Int) < i → μ 6 q = 0) → ∃ μ', jf_fill_c6_5 n 0 i 8 μ = some μ' ∧ (∀ p q, p ≠ 6 → μ' p q = μ p q) ∧ ∀ q : Nat, q < 8 → μ' 6 q = 0 := by
  induction j with
  | zero =>
    intro n i μ hi h0 hn hz
    obtain ⟨n, rfl⟩ : ∃ m, n = m + 1 := ⟨n - 1, by omega⟩
    exact ⟨μ, by rw [jf_fill_c6_5, if_pos (by omega), jf_fill_c6_20], fun p q _ => rfl, fun q hq => hz q (by omega)⟩
  | succ j ih =>
    intro n i μ hi h0 hn hz
    obtain ⟨n, rfl⟩ : ∃ m, n = m + 1 := ⟨n - 1, by omega⟩
    have e1 : w32 (i + 1) = i + 1 := w32_eq (by omega) (by omega)
    rw [jf_fill_c6_5, if_neg (by omega), aput_eq h0 (by omega), sb, bnd_eq, e1]
    obtain ⟨μ', a1, a2, a3⟩ := ih n (i + 1) (mst μ 6 i.toNat 0) (by omega) (by omega) (by omega) (fun q hq => by
      by_cases c : q = i.toNat
      · subst c; rw [mst_same]
      · rw [mst_ix c]; exact hz q (by omega))
    exact ⟨μ', a1, fun p q hp => by rw [a2 p q hp, mst_pl hp], a3⟩
theorem fill_eq6 (μ : Mem) : ∃ μ', jf_fill_c6 0 μ = some μ' ∧ (∀ p q, p ≠ 6 → μ' p q = μ p q) ∧ ∀ q : Nat, q < 8 → μ' 6 q = 0 := fill_lp6 8 FU 0 μ (by omega) (by omega) (by have := FU_ge; omega) (fun q hq => by omega)
theorem fl_lp6 {r : Nat → Int} {k : Nat} {b : Int} (j : Nat) : ∀ (i n : Nat) (μ : Mem), i + j = k → j < n → JT μ → rulT μ r k → EL (μ 6) → (∀ x, spn (μ 6) (-5) 8 x ↔ spn r b i x) →
    ∃ μ', xt_findLeads_c6_10 n b (rk r b i) i μ = some (rk r b k, μ') ∧ (∀ p q, p ≠ 6 → μ' p q = μ p q) ∧ EL (μ' 6) ∧ ∀ x, spn (μ' 6) (-5) 8 x ↔ spn r b k x := by
  induction j with
  | zero =>
    intro i n μ hi hn hJ hr hl hs
    obtain ⟨n, rfl⟩ : ∃ m, n = m + 1 := ⟨n - 1, by omega⟩
    have : i = k := by omega
    subst this
    exact ⟨μ, by rw [xt_findLeads_c6_10, hr.1, if_pos (by omega), xt_findLeads_c6_107], fun p q _ => rfl, hl, hs⟩
  | succ j ih =>
    intro i n μ hi hn hJ hr hl hs
    obtain ⟨n, rfl⟩ : ∃ m, n = m + 1 := ⟨n - 1, by omega⟩
    obtain ⟨hr1, hr2, hr3⟩ := hr
    have hri := hr3 i (by omega)
    have e1 : w32 ((i : Int) + 1) = ((i + 1 : Nat) : Int) := by rw [w32_eq (by omega) (by omega)]; omega
    have hsl := spn_sg (μ 6) (-5) 8
    rw [xt_findLeads_c6_10, hr1, if_neg (by omega)]
    by_cases hb : (i : Int) = b
    · rw [if_pos hb, xt_findLeads_c6_41, if_pos rfl, xt_findLeads_c6_101, bnd_eq, e1]
      have e3 : rk r b i = rk r b (i + 1) := by simp only [rk]; rw [bi_neg (fun z => z.1 hb)]; omega
      rw [e3]
      exact ih (i + 1) n μ (by omega) (by omega) hJ ⟨hr1, hr2, hr3⟩ hl (fun x => (hs x).trans (spn_eq r b i hb x).symm)
    · rw [if_neg hb, aget_eq (by omega) (by omega), sb, Int.toNat_natCast, hri.1, reduced_eq6 hJ hl hri.2, sb, xt_findLeads_c6_41]
      have ht := red_tau hl hri.2
      have h0 := tau_0 hsl hri.2
      rw [ht] at h0
      by_cases hz : red (μ 6) 8 (r i) = 0
      · have hin : spn r b i (r i) := (hs _).mp (h0.mp hz)
        rw [if_pos hz, xt_findLeads_c6_101, bnd_eq, e1]
        have e3 : rk r b i = rk r b (i + 1) := by simp only [rk]; rw [bi_neg (fun z => z.2 hin)]; omega
        rw [e3]
        exact ih (i + 1) n μ (by omega) (by omega) hJ ⟨hr1, hr2, hr3⟩ hl (fun x => (hs x).trans ((spn_ne r b i hb x).trans (ext_in (spn_sg r b i) hin x)).symm)
      · have hnin : ¬ spn r b i (r i) := fun z => hz (h0.mpr ((hs _).mpr z))
        have hrm := red_M (l := μ 6) 8 hri.2
        obtain ⟨s, s1, s2, s3, s4⟩ := high_eq hrm hz
        obtain ⟨d1, d2⟩ := dg_top s3 s4
        have hp := p3_pos s
        have hrk := rk_b r b i
        have hls : μ 6 s = 0 := by
          rcases Classical.em (μ 6 s = 0) with q | q
          · exact q
          · have := red_dg hl 8 (Nat.le_refl _) (r i) s s1 q
            omega
        have e2 : w32 (Int.tdiv (red (μ 6) 8 (r i)) (p3 s)) = dg s (red (μ 6) 8 (r i)) := by
          rw [tdE hrm.1, d1, w32_eq (by omega) (by omega)]
        have e4 : w32 (rk r b i + 1) = rk r b (i + 1) := by rw [w32_eq (by omega) (by omega)]; simp only [rk]; rw [bi_pos ⟨hb, hnin⟩]
        rw [if_neg hz, s2, sb, pget_eq (by omega), sb, if_neg (by omega), e2]
        -- the value of the new lead
        have key : ∃ v, isM v ∧ p3 s ≤ v ∧ v < 2 * p3 s ∧ (v = red (μ 6) 8 (r i) ∨ v = mx (red (μ 6) 8 (r i)) (red (μ 6) 8 (r i))) ∧ (if dg s (red (μ 6) 8 (r i)) = 1 then xt_findLeads_c6_73 (xt_findLeads_c6_10 n) b (rk r b i) i (red (μ 6) 8 (r i)) s 1 μ else xt_findLeads_c6_73 (xt_findLeads_c6_10 n) b (rk r b i) i (red (μ 6) 8 (r i)) s 0 μ) = xt_findLeads_c6_10 n b (rk r b (i + 1)) ((i + 1 : Nat) : Int) (mst μ 6 s v) := by
          by_cases hd : dg s (red (μ 6) 8 (r i)) = 1
          · refine ⟨_, hrm, s3, ?_, Or.inl rfl, ?_⟩
            · rw [hd] at d1
              have := (Int.ediv_eq_iff_of_pos hp).mp d1
              omega
            · rw [if_pos hd, xt_findLeads_c6_73, if_neg (by decide), xt_findLeads_c6_97, aput_eq (by omega) (by omega), sb, bnd_eq, e4, xt_findLeads_c6_101, bnd_eq, e1, Int.toNat_natCast]
          · have hd2 : dg s (red (μ 6) 8 (r i)) = 2 := by omega
            have hm := mx_isM (red (μ 6) 8 (r i)) (red (μ 6) 8 (r i))
            have hlt := mx_lt (k := s + 1) (by omega) ⟨hrm.1, s4⟩ ⟨hrm.1, s4⟩
            have hdd : dg s (mx (red (μ 6) 8 (r i)) (red (μ 6) 8 (r i))) = 1 := by rw [dg_mx s1, hd2]; rfl
            have hq : mx (red (μ 6) 8 (r i)) (red (μ 6) 8 (r i)) / p3 s = 1 := by
              have b3 : mx (red (μ 6) 8 (r i)) (red (μ 6) 8 (r i)) / p3 s < 3 := by
                rw [Int.ediv_lt_iff_lt_mul hp]
                simp only [p3] at hlt
                omega
              have b0 : 0 ≤ mx (red (μ 6) 8 (r i)) (red (μ 6) 8 (r i)) / p3 s := Int.ediv_nonneg hm.1 (p3_nn s)
              unfold dg at hdd
              omega
            have hq2 := (Int.ediv_eq_iff_of_pos hp).mp hq
            refine ⟨_, hm, by omega, by omega, Or.inr rfl, ?_⟩
            rw [if_neg hd, xt_findLeads_c6_73, if_pos rfl, twice_eq hJ hrm, sb, xt_findLeads_c6_97, aput_eq (by omega) (by omega), sb, bnd_eq, e4, xt_findLeads_c6_101, bnd_eq, e1, Int.toNat_natCast]
        obtain ⟨v, v1, v2, v3, v4, v5⟩ := key
        rw [v5]
        have hl' : EL ((mst μ 6 s v) 6) := fun k hk => by
          by_cases c : k = s
          · subst c; rw [mst_same]; exact Or.inr ⟨v2, v3⟩
          · rw [mst_ix c]; exact hl k hk
        have hs' : ∀ x, spn ((mst μ 6 s v) 6) (-5) 8 x ↔ spn r b (i + 1) x := by
          intro x
          rw [(lead_more hl s1 hls (l' := (mst μ 6 s v) 6) (v := v) (mst_same _ _ _ _) (fun j _ hj => mst_ix hj) 8 (Nat.le_refl _)).2 s1 x]
          have a1 : ext (spn (μ 6) (-5) 8) v x ↔ ext (spn (μ 6) (-5) 8) (red (μ 6) 8 (r i)) x := by
            rcases v4 with v4 | v4
            · rw [v4]
            · rw [v4]; exact ext_dbl _ hrm x
          rw [a1, ← ext_eqv hsl hri.2 (red_eqv hl 8 (Nat.le_refl _) hri.2) hrm x, ext_cong hs]
          exact (spn_ne r b i hb x).symm
        obtain ⟨μ', o1, o2, o3⟩ := ih (i + 1) n (mst μ 6 s v) (by omega) (by omega) (JT_fr hJ (fun q => mst_pl (by decide))) ⟨by rw [mst_pl (by decide)]; exact hr1, hr2, fun j hj => by rw [mst_pl (by decide)]; exact hr3 j hj⟩ hl' hs'
        exact ⟨μ', o1, fun p q hp => by rw [o2 p q hp, mst_pl hp], o3⟩
theorem findLeads_eq6 {r : Nat → Int} {k : Nat} {b : Int} {μ : Mem} (hJ : JT μ) (hr : rulT μ r k) : ∃ μ', xt_findLeads_c6 b μ = some (rk r b k, μ') ∧ (∀ p q, p ≠ 6 → μ' p q = μ p q) ∧ EL (μ' 6) ∧ ∀ x, spn (μ' 6) (-5) 8 x ↔ spn r b k x := by
  obtain ⟨μ1, a1, a2, a3⟩ := fill_eq6 μ
  obtain ⟨μ', o1, o2, o3⟩ := fl_lp6 (r := r) (k := k) (b := b) k 0 FU μ1 (by omega) (by have := FU_ge; have := hr.2.1; omega) (JT_fr hJ (fun q => a2 2 q (by decide))) ⟨by rw [a2 3 2 (by decide)]; exact hr.1, hr.2.1, fun j hj => by rw [a2 4 j (by decide)]; exact hr.2.2 j hj⟩ (EL_0 a3) (spn_0 a3 8 (Nat.le_refl _))
  exact ⟨μ', by rw [xt_findLeads_c6, a1, sb]; exact o1, fun p q hp => by rw [o2 p q hp, a2 p q hp], o3⟩
