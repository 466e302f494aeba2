/-! the class's walk through all mixes of a taste; alike; the cheapest mix of a taste, of both -/
def pw3 : Nat → Nat
  | 0 => 1
  | k + 1 => 3 * pw3 k
theorem pw3_p3 (k : Nat) : ((pw3 k : Nat) : Int) = p3 k := by
  induction k with
  | zero => rfl
  | succ k ih => simp only [pw3, p3]; omega
theorem pw3_pos (k : Nat) : 0 < pw3 k := by
  induction k with
  | zero => decide
  | succ k ih => simp only [pw3]; omega
def bs (c : Nat) : Nat → Nat
  | 0 => c
  | k + 1 => 3 * bs c k
theorem bs_1 (k : Nat) : bs 1 k = pw3 k := by
  induction k with
  | zero => rfl
  | succ k ih => simp only [bs, pw3]; omega
theorem bs_2 (k : Nat) : bs 2 k = 2 * pw3 k := by
  induction k with
  | zero => rfl
  | succ k ih => simp only [bs, pw3]; omega
/-- how often three goes into a number, at most n times -/
def vl : Nat → Nat → Nat
  | 0, _ => 0
  | n + 1, s => if s % 3 = 0 then vl n (s / 3) + 1 else 0
theorem vl_y {n s : Nat} (h : s % 3 = 0) : vl (n + 1) s = vl n (s / 3) + 1 := by rw [vl]; exact if_pos h
theorem vl_n {n s : Nat} (h : ¬ s % 3 = 0) : vl (n + 1) s = 0 := by rw [vl]; exact if_neg h
theorem bs_s (c k : Nat) : bs c (k + 1) = 3 * bs c k := rfl
theorem vl_le (n : Nat) : ∀ s, vl n s ≤ n := by
  induction n with
  | zero => intro s; exact Nat.le_refl _
  | succ n ih => intro s; have := ih (s / 3); simp only [vl]; split <;> omega
theorem vl_lt (n : Nat) : ∀ j s, 0 < s → s < pw3 j → vl n s < j := by
  induction n with
  | zero =>
    intro j s h0 h1
    cases j with
    | zero => simp only [pw3] at h1; omega
    | succ j => simp only [vl]; omega
  | succ n ih =>
    intro j s h0 h1
    cases j with
    | zero => simp only [pw3] at h1; omega
    | succ j =>
      simp only [pw3] at h1
      simp only [vl]
      split
      · have := ih j (s / 3) (by omega) (by omega)
        omega
      · omega
theorem vl_add (n : Nat) (c : Nat) : ∀ j t, 0 < t → t < pw3 j → vl n (bs c j + t) = vl n t := by
  induction n with
  | zero => intro j t _ _; rfl
  | succ n ih =>
    intro j t h0 h1
    cases j with
    | zero => simp only [pw3] at h1; omega
    | succ j =>
      simp only [pw3] at h1
      rw [bs_s]
      by_cases h : t % 3 = 0
      · rw [vl_y (by omega), vl_y h, show (3 * bs c j + t) / 3 = bs c j + t / 3 by omega, ih j (t / 3) (by omega) (by omega)]
      · rw [vl_n (by omega), vl_n h]
theorem vl_bs {c : Nat} (hc : c % 3 ≠ 0) : ∀ j n, j ≤ n → vl n (bs c j) = j := by
  intro j
  induction j with
  | zero =>
    intro n _
    cases n with
    | zero => rfl
    | succ n => exact vl_n hc
  | succ j ih =>
    intro n hn
    obtain ⟨n, rfl⟩ : ∃ m, n = m + 1 := ⟨n - 1, by omega⟩
    rw [bs_s, vl_y (by omega), show 3 * bs c j / 3 = bs c j by omega, ih n (by omega)]
/-- the walk: each step takes one part more -/
noncomputable def gw (v : Nat → Int) (a : Int) : Nat → Int
  | 0 => a
  | s + 1 => mx (gw v a s) (v (vl 7 (s + 1)))
theorem gw_M {v : Nat → Int} {a : Int} (ha : isM a) (s : Nat) : isM (gw v a s) := by
  cases s with
  | zero => exact ha
  | succ s => exact mx_isM _ _
theorem gw_mv {v : Nat → Int} {a : Int} (ha : isM a) (s : Nat) : gw v a s = mx a (gw v 0 s) := by
  induction s with
  | zero => exact (mx_zero ha).symm
  | succ s ih => rw [gw, gw, ih, mx_assoc]
theorem gw_add {v : Nat → Int} {a : Int} (ha : isM a) (c j : Nat) : ∀ s, s < pw3 j → gw v a (bs c j + s) = mx (gw v a (bs c j)) (gw v 0 s) := by
  intro s
  induction s with
  | zero => intro _; exact (mx_zero (gw_M ha _)).symm
  | succ s ih =>
    intro hs
    rw [show bs c j + (s + 1) = (bs c j + s) + 1 by omega, gw, gw, ih (by omega), show bs c j + s + 1 = bs c j + (s + 1) by omega, vl_add 7 c j (s + 1) (by omega) hs, mx_assoc]
theorem spn_v {v : Nat → Int} {q : Nat} (hq : isM (v q)) : ∀ j, q < j → spn v (-5) j (v q) := by
  intro j
  induction j with
  | zero => intro h; omega
  | succ j ih =>
    intro h
    rw [spn_ne v (-5) j (by omega)]
    by_cases e : q = j
    · subst e; exact ext_r (spn_sg v (-5) q) hq
    · exact Or.inl (ih (by omega))
theorem z_isM : isM 0 := ⟨by decide, by decide⟩
theorem gw_in {v : Nat → Int} {j : Nat} (hv : ∀ q, q < j → isM (v q)) : ∀ s, s < pw3 j → spn v (-5) j (gw v 0 s) := by
  intro s
  induction s with
  | zero => intro _; exact (spn_sg v (-5) j).1
  | succ s ih =>
    intro hs
    have hl := vl_lt 7 j (s + 1) (by omega) hs
    exact (spn_sg v (-5) j).2.2 _ _ (ih (by omega)) (spn_v (hv _ hl) j hl)
theorem gw_cov {v : Nat → Int} : ∀ j, j ≤ 8 → (∀ q, q < j → isM (v q)) → ∀ x, spn v (-5) j x → ∃ s, s < pw3 j ∧ gw v 0 s = x := by
  intro j
  induction j with
  | zero => intro _ _ x hx; exact ⟨0, by decide, hx.symm⟩
  | succ j ih =>
    intro hj hv x hx
    have hp := pw3_pos j
    have hS := spn_sg v (-5) j
    have hi := ih (by omega) (fun q hq => hv q (by omega))
    obtain ⟨t, ht⟩ : ∃ t, t + 1 = pw3 j := ⟨pw3 j - 1, by omega⟩
    have he := gw_in (v := v) (j := j) (fun q hq => hv q (by omega)) t (by omega)
    have hem := hS.2.1 _ he
    have g1 : gw v 0 (bs 1 j) = mx (gw v 0 t) (v j) := by
      have h := vl_bs (c := 1) (by decide) j 7 (by omega)
      rw [show bs 1 j = t + 1 by rw [bs_1]; omega] at h ⊢
      rw [gw, h]
    have g2 : gw v 0 (bs 2 j) = mx (mx (mx (gw v 0 t) (v j)) (gw v 0 t)) (v j) := by
      have h := vl_bs (c := 2) (by decide) j 7 (by omega)
      have h2 : bs 2 j = (bs 1 j + t) + 1 := by rw [bs_1, bs_2]; omega
      rw [h2] at h ⊢
      rw [gw, h, gw_add z_isM 1 j t (by omega), g1]
    rw [spn_ne v (-5) j (by omega)] at hx
    rcases hx with hx | ⟨hm, hx | hx⟩
    · obtain ⟨s, h1, h2⟩ := hi x hx
      exact ⟨s, by simp only [pw3]; omega, h2⟩
    · obtain ⟨s, h1, h2⟩ := hi _ (hS.2.2 _ _ hx he)
      refine ⟨bs 2 j + s, by rw [bs_2]; simp only [pw3]; omega, ?_⟩
      rw [gw_add z_isM 2 j s h1, g2, h2, show mx (mx (mx (mx (gw v 0 t) (v j)) (gw v 0 t)) (v j)) (mx (mx x (v j)) (gw v 0 t)) = mx (mx x (mx (v j) (mx (v j) (v j)))) (mx (gw v 0 t) (mx (gw v 0 t) (gw v 0 t))) by simp only [mx_assoc, mx_comm, mx_lc], mx_three, mx_three, mx_zero hm, mx_zero hm]
    · obtain ⟨s, h1, h2⟩ := hi _ (hS.2.2 _ _ hx (hS.2.2 _ _ he he))
      refine ⟨bs 1 j + s, by rw [bs_1]; simp only [pw3]; omega, ?_⟩
      rw [gw_add z_isM 1 j s h1, g1, h2, show mx (mx (gw v 0 t) (v j)) (mx (mx x (mx (v j) (v j))) (mx (gw v 0 t) (gw v 0 t))) = mx (mx x (mx (v j) (mx (v j) (v j)))) (mx (gw v 0 t) (mx (gw v 0 t) (gw v 0 t))) by simp only [mx_assoc, mx_comm, mx_lc], mx_three, mx_three, mx_zero hm, mx_zero hm]
/-- what the parts are: R mixes of which all bland mixes are made -/
def PRT (μ : Mem) (R : Nat) (S : Int → Prop) : Prop := R ≤ 8 ∧ μ 3 3 = (R : Int) ∧ (∀ q : Nat, q < R → isM (μ 7 q)) ∧ ∀ x, spn (μ 7) (-5) R x ↔ S x
theorem pw3_le {R : Nat} (h : R ≤ 8) : pw3 R ≤ 6561 := by
  rcases (show R = 0 ∨ R = 1 ∨ R = 2 ∨ R = 3 ∨ R = 4 ∨ R = 5 ∨ R = 6 ∨ R = 7 ∨ R = 8 by omega) with rfl | rfl | rfl | rfl | rfl | rfl | rfl | rfl | rfl <;> decide
theorem nl_lp {μ : Mem} (hJ : JT μ) {x : Int} (hx : isM x) (m : Nat) : ∀ (p n s : Nat), p + m = 7 → m < n → s ≤ 6561 → isM (μ 7 (p + vl m s)) → xt_nextLike_5 n x p s μ = some (mx x (μ 7 (p + vl m s))) := by
  induction m with
  | zero =>
    intro p n s hp hn hs hv
    obtain ⟨n, rfl⟩ : ∃ m, n = m + 1 := ⟨n - 1, by omega⟩
    rw [xt_nextLike_5, if_pos (by omega), xt_nextLike_30, aget_eq (by omega) (by omega), sb, Int.toNat_natCast]
    simp only [vl, Nat.add_zero] at hv ⊢
    rw [join_eq hJ hx hv, sb]
  | succ m ih =>
    intro p n s hp hn hs hv
    obtain ⟨n, rfl⟩ : ∃ m, n = m + 1 := ⟨n - 1, by omega⟩
    have e1 : w32 ((p : Int) + 1) = ((p + 1 : Nat) : Int) := by rw [w32_eq (by omega) (by omega)]; omega
    have e2 : w32 (Int.tdiv (s : Int) 3) = ((s / 3 : Nat) : Int) := by rw [tdE (by omega), w32_eq (by omega) (by omega)]; omega
    rw [xt_nextLike_5, if_neg (by omega), tmE (by omega)]
    by_cases h : s % 3 = 0
    · rw [vl_y h] at hv ⊢
      rw [show p + (vl m (s / 3) + 1) = p + 1 + vl m (s / 3) by omega] at hv ⊢
      rw [if_pos (by omega), bnd_eq, bnd_eq, e1, e2]
      exact ih (p + 1) n (s / 3) (by omega) (by omega) (by omega) hv
    · rw [vl_n h] at hv ⊢
      rw [Nat.add_zero] at hv ⊢
      rw [if_neg (by omega), xt_nextLike_30, aget_eq (by omega) (by omega), sb, Int.toNat_natCast, join_eq hJ hx hv, sb]
theorem nextLike_eq {μ : Mem} {R : Nat} {S : Int → Prop} (hJ : JT μ) (hR : PRT μ R S) {x : Int} (hx : isM x) {s : Nat} (h0 : 0 < s) (h1 : s < pw3 R) : xt_nextLike x s μ = some (mx x (μ 7 (vl 7 s))) := by
  have hq := pw3_le hR.1
  have hv := hR.2.2.1 _ (vl_lt 7 R s h0 h1)
  have := nl_lp hJ hx 7 0 FU s (by omega) (by have := FU_ge; omega) (by omega) (by rw [Nat.zero_add]; exact hv)
  rw [Nat.zero_add] at this
  exact this
theorem PRT_at {μ : Mem} {R : Nat} {S : Int → Prop} (hR : PRT μ R S) : pget (μ 3 3) = some (p3 R) := by rw [hR.2.1]; exact pget_eq (by have := hR.1; omega)
theorem sbl_lp {μ : Mem} {R : Nat} {S : Int → Prop} (hJ : JT μ) (hR : PRT μ R S) {a b : Int} (ha : isM a) (j : Nat) : ∀ (n s : Nat), s + 1 + j = pw3 R → j < n → (∀ t, t < s → gw (μ 7) a t ≠ b) → xt_someBlandLeads_5 n b (gw (μ 7) a s) ((s + 1 : Nat) : Int) μ = some (bi (∃ t, t < pw3 R ∧ gw (μ 7) a t = b)) := by
  induction j with
  | zero =>
    intro n s hs hn hz
    obtain ⟨n, rfl⟩ : ∃ m, n = m + 1 := ⟨n - 1, by omega⟩
    have hp := pw3_p3 R
    rw [xt_someBlandLeads_5, PRT_at hR, sb, if_pos (by omega), xt_someBlandLeads_37]
    by_cases h : gw (μ 7) a s = b
    · rw [if_pos h, xt_someBlandLeads_47, if_pos (Or.inr rfl), bi_pos ⟨s, by omega, h⟩]
    · rw [if_neg h, xt_someBlandLeads_47, if_pos (Or.inl rfl), bi_neg (fun ⟨t, t1, t2⟩ => by
        by_cases c : t = s
        · subst c; exact h t2
        · exact hz t (by omega) t2)]
  | succ j ih =>
    intro n s hs hn hz
    obtain ⟨n, rfl⟩ : ∃ m, n = m + 1 := ⟨n - 1, by omega⟩
    have hp := pw3_p3 R
    have hq := pw3_le hR.1
    have e1 : w32 (((s + 1 : Nat) : Int) + 1) = ((s + 1 + 1 : Nat) : Int) := by rw [w32_eq (by omega) (by omega)]; omega
    rw [xt_someBlandLeads_5, PRT_at hR, sb, if_neg (by omega)]
    by_cases h : gw (μ 7) a s = b
    · rw [if_pos h, xt_someBlandLeads_37, if_pos h, xt_someBlandLeads_47, if_pos (Or.inr rfl), bi_pos ⟨s, by omega, h⟩]
    · rw [if_neg h, nextLike_eq hJ hR (gw_M ha s) (by omega) (by omega), sb, bnd_eq, e1]
      exact ih n (s + 1) (by omega) (by omega) (fun t ht => by
        by_cases c : t = s
        · subst c; exact h
        · exact hz t (by omega))
theorem gw_all {μ : Mem} {R : Nat} {S : Int → Prop} (hR : PRT μ R S) {a y : Int} (ha : isM a) (hy : isM y) : (∃ t, t < pw3 R ∧ gw (μ 7) a t = y) ↔ S (mx y (mx a a)) := by
  refine ⟨fun ⟨t, t1, t2⟩ => ?_, fun h => ?_⟩
  · have h := (hR.2.2.2 _).mp (gw_in hR.2.2.1 t t1)
    have hm := (spn_sg (μ 7) (-5) R).2.1 _ (gw_in hR.2.2.1 t t1)
    rw [gw_mv ha] at t2
    rw [← t2, show mx (mx a (gw (μ 7) 0 t)) (mx a a) = mx (gw (μ 7) 0 t) (mx a (mx a a)) by simp only [mx_assoc, mx_comm, mx_lc], mx_three, mx_zero hm]
    exact h
  · obtain ⟨t, t1, t2⟩ := gw_cov R hR.1 hR.2.2.1 _ ((hR.2.2.2 _).mpr h)
    refine ⟨t, t1, ?_⟩
    rw [gw_mv ha, t2, show mx a (mx y (mx a a)) = mx y (mx a (mx a a)) by simp only [mx_assoc, mx_comm, mx_lc], mx_three, mx_zero hy]
theorem someBland_eq {r : Nat → Int} {k : Nat} {μ : Mem} (h : LK μ r k) {a b : Int} (ha : isM a) (hb : isM b) : xt_someBlandLeads a b μ = some (bi (spn r (-5) k (mx b (mx a a)))) := by
  obtain ⟨R, hR⟩ := h.2.2.2.2.2
  have hR : PRT μ R (spn r (-5) k) := hR
  have hp := pw3_pos R
  have hq := pw3_le hR.1
  have e := sbl_lp h.1 hR (b := b) ha (pw3 R - 1) FU 0 (by omega) (by have := FU_ge; omega) (fun t ht => by omega)
  rw [bi_cong (gw_all hR ha hb)] at e
  exact e
/-! the cheapest mix of a taste -/
def IsC (S : Int → Prop) (p : Nat → Int) (m c : Int) : Prop := isM c ∧ eqv S m c ∧ ∀ y, isM y → eqv S m y → prc p c < prc p y ∨ (prc p c = prc p y ∧ c ≤ y)
theorem isC_un {S : Int → Prop} {p : Nat → Int} {m c d : Int} (h1 : IsC S p m c) (h2 : IsC S p m d) : c = d := by
  have a := h1.2.2 d h2.1 h2.2.1
  have b := h2.2.2 c h1.1 h1.2.1
  omega