/-! digits; leads in steps; what is left of a mix when every lead is taken is the least of its taste -/
def dg (k : Nat) (m : Int) : Int := m / p3 k % 3
theorem p3_nn (k : Nat) : 0 ≤ p3 k := Int.le_of_lt (p3_pos k)
theorem div_p3s (a : Int) (k : Nat) : a / p3 (k + 1) = a / 3 / p3 k := by
  rw [p3, Int.ediv_mul_of_nonneg (by omega)]
theorem div_p3s' (a : Int) (k : Nat) : a / p3 (k + 1) = a / p3 k / 3 := by
  rw [p3, Int.mul_comm, Int.ediv_mul_of_nonneg (p3_nn k)]
theorem madd_divp (k : Nat) : ∀ (j : Nat) (a b : Int), madd (j + k) a b / p3 k = madd j (a / p3 k) (b / p3 k) := by
  induction k with
  | zero => intro j a b; simp [p3]
  | succ k ih =>
    intro j a b
    rw [div_p3s, ← Nat.add_assoc, madd_div, ih, ← div_p3s, ← div_p3s]
theorem mx_divp (k j : Nat) (h : j + k = 8) (a b : Int) : mx a b / p3 k = madd j (a / p3 k) (b / p3 k) := by
  rw [mx_def, ← h]
  exact madd_divp k j a b
theorem dg_mx {k : Nat} (h : k < 8) (a b : Int) : dg k (mx a b) = (dg k a + dg k b) % 3 := by
  obtain ⟨j, hj⟩ : ∃ j, j + 1 + k = 8 := ⟨7 - k, by omega⟩
  unfold dg
  rw [mx_divp k (j + 1) hj, madd_mod]
theorem dg_b (k : Nat) (m : Int) : 0 ≤ dg k m ∧ dg k m < 3 := by unfold dg; omega
theorem dg_lt {k : Nat} {m : Int} (h0 : 0 ≤ m) (h : m < p3 k) : dg k m = 0 := by
  unfold dg
  rw [Int.ediv_eq_zero_of_lt h0 h]
  rfl
theorem p3_mono {j k : Nat} (h : j ≤ k) : p3 j ≤ p3 k := by
  induction k with
  | zero => have : j = 0 := by omega
            subst this; exact Int.le_refl _
  | succ k ih =>
    by_cases e : j = k + 1
    · subst e; exact Int.le_refl _
    · have := ih (by omega)
      have := p3_pos k
      simp only [p3]; omega
theorem mx_lt {k : Nat} (hk : k ≤ 8) {a b : Int} (ha : 0 ≤ a ∧ a < p3 k) (hb : 0 ≤ b ∧ b < p3 k) : mx a b < p3 k := by
  have h := mx_divp k (8 - k) (by omega) a b
  rw [Int.ediv_eq_zero_of_lt ha.1 ha.2, Int.ediv_eq_zero_of_lt hb.1 hb.2] at h
  have z : ∀ j, madd j 0 0 = 0 := by
    intro j
    induction j with
    | zero => rfl
    | succ j ih => simp only [madd, Int.zero_ediv, ih]; omega
  rw [z] at h
  have h2 := (mx_isM a b).1
  have h3 := (Int.ediv_eq_iff_of_pos (p3_pos k)).mp h
  omega
/-- multiples of a mix -/
noncomputable def sc (c : Nat) (r : Int) : Int := if c = 0 then 0 else if c = 1 then r else mx r r
theorem ext_sc {P : Int → Prop} (h : ∀ x, P x → isM x) (r x : Int) : ext P r x ↔ isM x ∧ ∃ c, c < 3 ∧ P (mx x (sc c r)) := by
  unfold ext
  refine ⟨fun hx => ?_, fun ⟨hm, c, hc, hx⟩ => ?_⟩
  · rcases hx with hx | ⟨hm, hx | hx⟩
    · exact ⟨h x hx, 0, by omega, by rw [show sc 0 r = 0 from rfl, mx_zero (h x hx)]; exact hx⟩
    · exact ⟨hm, 1, by omega, hx⟩
    · exact ⟨hm, 2, by omega, hx⟩
  · rcases (show c = 0 ∨ c = 1 ∨ c = 2 by omega) with rfl | rfl | rfl
    · rw [show sc 0 r = 0 from rfl, mx_zero hm] at hx; exact Or.inl hx
    · exact Or.inr ⟨hm, Or.inl hx⟩
    · exact Or.inr ⟨hm, Or.inr hx⟩
theorem ext_M {P : Int → Prop} (h : ∀ x, P x → isM x) (r : Int) : ∀ x, ext P r x → isM x := fun x hx => by
  rcases hx with hx | hx
  · exact h x hx
  · exact hx.1
theorem ext_comm {P : Int → Prop} (h : ∀ x, P x → isM x) (a b x : Int) : ext (ext P a) b x ↔ ext (ext P b) a x := by
  have key : ∀ a b : Int, ext (ext P a) b x → ext (ext P b) a x := by
    intro a b hx
    obtain ⟨hm, c, hc, hx⟩ := (ext_sc (ext_M h a) b x).mp hx
    obtain ⟨hm2, e, he, hx⟩ := (ext_sc h a _).mp hx
    refine (ext_sc (ext_M h b) a x).mpr ⟨hm, e, he, (ext_sc h b _).mpr ⟨mx_isM _ _, c, hc, ?_⟩⟩
    rwa [mx_assoc, mx_comm (sc e a), ← mx_assoc]
  exact ⟨key a b, key b a⟩
theorem ext_zero {P : Int → Prop} (h : ∀ x, P x → isM x) (x : Int) : ext P 0 x ↔ P x := by
  have z : mx 0 0 = 0 := mx_zero ⟨by decide, by decide⟩
  refine ⟨fun hx => ?_, Or.inl⟩
  rcases hx with hx | ⟨hm, hx | hx⟩
  · exact hx
  · rwa [mx_zero hm] at hx
  · rwa [z, mx_zero hm] at hx
theorem ext_eqv {P : Int → Prop} (h : Sg P) {v r : Int} (hv : isM v) (e : eqv P v r) (hr : isM r) (x : Int) : ext P v x ↔ ext P r x := by
  have key : ∀ v r : Int, isM v → isM r → eqv P v r → ext P v x → ext P r x := by
    intro v r hv hr e hx
    have e' := eqv_sm h hr e
    rcases hx with hx | ⟨hm, hx | hx⟩
    · exact Or.inl hx
    · refine Or.inr ⟨hm, Or.inl ?_⟩
      have := h.2.2 _ _ hx e'
      rwa [show mx (mx x v) (mx r (mx v v)) = mx (mx x r) (mx v (mx v v)) by simp only [mx_assoc, mx_comm, mx_lc], mx_three, mx_m0] at this
    · refine Or.inr ⟨hm, Or.inr ?_⟩
      have := h.2.2 _ _ (h.2.2 _ _ hx e') e'
      rwa [show mx (mx (mx x (mx v v)) (mx r (mx v v))) (mx r (mx v v)) = mx (mx (mx x (mx r r)) (mx v (mx v v))) (mx v (mx v v)) by simp only [mx_assoc, mx_comm, mx_lc], mx_three, mx_m0, mx_m0] at this
  exact ⟨key v r hv hr e, key r v hr hv (eqv_sm h hr e)⟩
theorem ext_dbl (P : Int → Prop) {r : Int} (hr : isM r) (x : Int) : ext P (mx r r) x ↔ ext P r x := by
  have : mx (mx r r) (mx r r) = r := by rw [mx_assoc, mx_three, mx_zero hr]
  unfold ext
  rw [this]
  exact ⟨fun h => h.elim Or.inl (fun ⟨a, b⟩ => Or.inr ⟨a, b.elim Or.inr Or.inl⟩), fun h => h.elim Or.inl (fun ⟨a, b⟩ => Or.inr ⟨a, b.elim Or.inr Or.inl⟩)⟩
theorem spn_neg (r : Nat → Int) {b b' : Int} (hb : b < 0) (hb' : b' < 0) (k : Nat) : ∀ x, spn r b k x ↔ spn r b' k x := by
  induction k with
  | zero => intro x; exact Iff.rfl
  | succ k ih =>
    intro x
    rw [spn_ne r b k (by omega), spn_ne r b' k (by omega)]
    exact ext_cong ih _ _
theorem rk_neg (r : Nat → Int) {b b' : Int} (hb : b < 0) (hb' : b' < 0) (k : Nat) : rk r b k = rk r b' k := by
  induction k with
  | zero => rfl
  | succ k ih =>
    simp only [rk]
    rw [ih]
    congr 1
    refine bi_cong ⟨fun ⟨_, h⟩ => ⟨by omega, fun z => h ((spn_neg r hb hb' k _).mpr z)⟩, fun ⟨_, h⟩ => ⟨by omega, fun z => h ((spn_neg r hb hb' k _).mp z)⟩⟩
/-- leads: by spice, none (0) or a mix with one unit of it and no spice above it -/
def EL (l : Nat → Int) : Prop := ∀ k, k < 8 → l k = 0 ∨ (p3 k ≤ l k ∧ l k < 2 * p3 k)
theorem EL_b {l : Nat → Int} (h : EL l) {k : Nat} (hk : k < 8) : 0 ≤ l k ∧ l k < p3 (k + 1) := by
  have := p3_pos k
  simp only [p3]
  rcases h k hk with h | h <;> omega
theorem EL_M {l : Nat → Int} (h : EL l) {k : Nat} (hk : k < 8) : isM (l k) := by
  have h1 := EL_b h hk
  have h2 : p3 (k + 1) ≤ 6561 := p3_mono (j := k + 1) (k := 8) (by omega)
  exact ⟨h1.1, by omega⟩
theorem dg_lead {l : Nat → Int} (h : EL l) {k : Nat} (hk : k < 8) (h0 : l k ≠ 0) : dg k (l k) = 1 := by
  rcases h k hk with h | ⟨h1, h2⟩
  · exact absurd h h0
  · unfold dg
    have e : l k / p3 k = 1 := (Int.ediv_eq_iff_of_pos (p3_pos k)).mpr ⟨by omega, by omega⟩
    rw [e]
    rfl
theorem dg_low {l : Nat → Int} (h : EL l) {j k : Nat} (hj : j < k) (hk : k < 8) : dg k (l j) = 0 := by
  have h1 := EL_b h (k := j) (by omega)
  have h2 := p3_mono (j := j + 1) (k := k) (by omega)
  exact dg_lt h1.1 (by omega)
theorem spn_lt {l : Nat → Int} (h : EL l) : ∀ k, k ≤ 8 → ∀ x, spn l (-5) k x → 0 ≤ x ∧ x < p3 k := by
  intro k
  induction k with
  | zero => intro _ x hx; have : x = 0 := hx; subst this; exact ⟨by decide, by decide⟩
  | succ k ih =>
    intro hk x hx
    have hb := EL_b h (k := k) (by omega)
    have hp := p3_pos k
    have hp2 : p3 k ≤ p3 (k + 1) := p3_mono (by omega)
    have hsg := spn_sg l (-5) k
    have hxm := (spn_sg l (-5) (k + 1)).2.1 x hx
    rw [spn_ne l (-5) k (by omega)] at hx
    refine ⟨hxm.1, ?_⟩
    have hll : 0 ≤ mx (l k) (l k) ∧ mx (l k) (l k) < p3 (k + 1) := ⟨(mx_isM _ _).1, mx_lt (by omega) hb hb⟩
    rcases hx with hx | ⟨hm, hx | hx⟩
    · have := ih (by omega) x hx; omega
    · have h1 := ih (by omega) _ hx
      have e : x = mx (mx x (l k)) (mx (l k) (l k)) := by rw [mx_assoc, mx_three, mx_zero hm]
      rw [e]
      exact mx_lt (by omega) ⟨h1.1, by omega⟩ hll
    · have h1 := ih (by omega) _ hx
      have e : x = mx (mx x (mx (l k) (l k))) (l k) := by rw [mx_assoc, mx_comm (mx (l k) (l k)), mx_three, mx_zero hm]
      rw [e]
      exact mx_lt (by omega) ⟨h1.1, by omega⟩ hb
/-- a mix without units of the spices that lead is the least of its taste -/
theorem low_least {l : Nat → Int} (h : EL l) {x : Int} (hx : isM x) : ∀ k, k ≤ 8 → (∀ j, j < k → l j ≠ 0 → dg j x = 0) → ∀ b, spn l (-5) k b → x ≤ mx x b := by
  intro k
  induction k with
  | zero => intro _ _ b hb; have : b = 0 := hb; subst this; rw [mx_zero hx]; exact Int.le_refl _
  | succ k ih =>
    intro hk hd b hb
    have hbl := spn_lt h (k + 1) hk b hb
    have hbm := (spn_sg l (-5) (k + 1)).2.1 b hb
    rw [spn_ne l (-5) k (by omega)] at hb
    have hd' : ∀ j, j < k → l j ≠ 0 → dg j x = 0 := fun j hj => hd j (by omega)
    by_cases h0 : l k = 0
    · rw [h0] at hb
      exact ih (by omega) hd' b ((ext_zero (spn_sg l (-5) k).2.1 b).mp hb)
    · have hdk : dg k b = 0 ∨ dg k b = 1 ∨ dg k b = 2 := by have := dg_b k b; omega
      rcases hb with hb | hb
      · exact ih (by omega) hd' b hb
      · -- b has units of the spice k
        have hl1 := dg_lead h (k := k) (by omega) h0
        have hne : dg k b ≠ 0 := by
          intro z
          rcases hb with ⟨_, hb | hb⟩
          · have h1 := spn_lt h k (by omega) _ hb
            have h2 := dg_lt h1.1 h1.2
            rw [dg_mx (by omega), z, hl1] at h2
            omega
          · have h1 := spn_lt h k (by omega) _ hb
            have h2 := dg_lt h1.1 h1.2
            rw [dg_mx (by omega), dg_mx (by omega), z, hl1] at h2
            omega
        have hx0 := hd k (by omega) h0
        have hs : dg k (mx x b) = dg k b := by rw [dg_mx (by omega), hx0]; have := dg_b k b; omega
        have hh : mx x b / p3 (k + 1) = x / p3 (k + 1) := by
          rw [mx_divp (k + 1) (7 - k) (by omega), Int.ediv_eq_zero_of_lt hbl.1 hbl.2]
          refine madd_zero (7 - k) _ (Int.ediv_nonneg hx.1 (p3_nn _)) ?_
          have e : p3 (7 - k) * p3 (k + 1) = 6561 := by
            rcases (show k = 0 ∨ k = 1 ∨ k = 2 ∨ k = 3 ∨ k = 4 ∨ k = 5 ∨ k = 6 ∨ k = 7 by omega) with rfl | rfl | rfl | rfl | rfl | rfl | rfl | rfl <;> decide
          rw [Int.ediv_lt_iff_lt_mul (p3_pos _), e]
          exact hx.2
        rw [div_p3s', div_p3s'] at hh
        unfold dg at hs hx0 hne
        have h1 : x / p3 k < mx x b / p3 k := by omega
        have h2 : x < mx x b := by
          rcases (show x < mx x b ∨ mx x b ≤ x by omega) with q | q
          · exact q
          · have := Int.ediv_le_ediv (p3_pos k) q
            omega
        omega
/-- taking the leads away, the highest first -/
noncomputable def rst (l : Nat → Int) (k : Nat) (m : Int) : Int := if l k = 0 then m else if dg k m = 0 then m else if dg k m = 1 then mx (mx m (l k)) (l k) else mx m (l k)
noncomputable def red (l : Nat → Int) : Nat → Int → Int
  | 0, m => m
  | k + 1, m => red l k (rst l k m)
theorem rst_M {l : Nat → Int} {k : Nat} {m : Int} (h : isM m) : isM (rst l k m) := by
  unfold rst
  split
  · exact h
  · split
    · exact h
    · split <;> exact mx_isM _ _
theorem red_M {l : Nat → Int} (k : Nat) : ∀ {m : Int}, isM m → isM (red l k m) := by
  induction k with
  | zero => intro m h; exact h
  | succ k ih => intro m h; exact ih (rst_M h)
theorem rst_dg {l : Nat → Int} (h : EL l) {k : Nat} (hk : k < 8) (h0 : l k ≠ 0) (m : Int) : dg k (rst l k m) = 0 := by
  have hl := dg_lead h hk h0
  have := dg_b k m
  unfold rst
  rw [if_neg h0]
  split
  · assumption
  · split
    · rw [dg_mx hk, dg_mx hk, hl]; omega
    · rw [dg_mx hk, hl]; omega
theorem rst_hi {l : Nat → Int} (h : EL l) {j k : Nat} (hj : j < k) (hk : k < 8) (m : Int) : dg k (rst l j m) = dg k m := by
  have hl := dg_low h hj hk
  have := dg_b k m
  unfold rst
  split
  · rfl
  · split
    · rfl
    · split
      · rw [dg_mx hk, dg_mx hk, hl]; omega
      · rw [dg_mx hk, hl]; omega
theorem red_hi {l : Nat → Int} (h : EL l) {k : Nat} (hk : k < 8) : ∀ j, j ≤ k → ∀ m, dg k (red l j m) = dg k m := by
  intro j
  induction j with
  | zero => intro _ m; rfl
  | succ j ih => intro hj m; rw [red, ih (by omega), rst_hi h (by omega) hk]
theorem red_dg {l : Nat → Int} (h : EL l) : ∀ k, k ≤ 8 → ∀ m j, j < k → l j ≠ 0 → dg j (red l k m) = 0 := by
  intro k
  induction k with
  | zero => intro _ m j hj; omega
  | succ k ih =>
    intro hk m j hj h0
    rw [red]
    by_cases e : j = k
    · subst e
      rw [red_hi h (by omega) j (Nat.le_refl _)]
      exact rst_dg h (by omega) h0 m
    · exact ih (by omega) _ j (by omega) h0
theorem lead_in {l : Nat → Int} (h : EL l) {j : Nat} : ∀ k, k ≤ 8 → j < k → spn l (-5) k (l j) := by
  intro k
  induction k with
  | zero => intro _ hj; omega
  | succ k ih =>
    intro hk hj
    rw [spn_ne l (-5) k (by omega)]
    by_cases e : j = k
    · subst e
      exact ext_r (spn_sg l (-5) j) (EL_M h (by omega))
    · exact Or.inl (ih (by omega) (by omega))
theorem rst_eqv {l : Nat → Int} (h : EL l) {k : Nat} (hk : k < 8) {m : Int} (hm : isM m) : eqv (spn l (-5) 8) m (rst l k m) := by
  have hs := spn_sg l (-5) 8
  have hl := lead_in h 8 (Nat.le_refl _) hk
  unfold rst
  split
  · exact eqv_rf hs m
  · split
    · exact eqv_rf hs m
    · split
      · unfold eqv
        rw [show mx m (mx (mx (mx m (l k)) (l k)) (mx (mx m (l k)) (l k))) = mx (mx (l k) (mx (l k) (mx (l k) (l k)))) (mx m (mx m m)) by simp only [mx_assoc, mx_comm, mx_lc], mx_three, mx_three, mx_zero (EL_M h hk), mx_zero (EL_M h hk)]
        exact hl
      · unfold eqv
        rw [show mx m (mx (mx m (l k)) (mx m (l k))) = mx (mx (l k) (l k)) (mx m (mx m m)) by simp only [mx_assoc, mx_comm, mx_lc], mx_three, mx_m0]
        exact hs.2.2 _ _ hl hl
theorem red_eqv {l : Nat → Int} (h : EL l) : ∀ k, k ≤ 8 → ∀ {m : Int}, isM m → eqv (spn l (-5) 8) m (red l k m) := by
  intro k
  induction k with
  | zero => intro _ m _; exact eqv_rf (spn_sg l (-5) 8) m
  | succ k ih =>
    intro hk m hm
    exact eqv_tr (spn_sg l (-5) 8) (rst_eqv h (by omega) hm) (ih (by omega) (rst_M hm))
theorem red_tau {l : Nat → Int} (h : EL l) {m : Int} (hm : isM m) : tau (spn l (-5) 8) m = red l 8 m := by
  have hs := spn_sg l (-5) 8
  have hr := red_M (l := l) 8 hm
  have he := red_eqv h 8 (Nat.le_refl _) hm
  refine tau_of hs hm ⟨hr, he, fun y hy hey => ?_⟩
  have hb := eqv_tr hs (eqv_sm hs hy hey) he
  have := low_least h hr 8 (Nat.le_refl _) (red_dg h 8 (Nat.le_refl _) m) _ hb
  rwa [show mx (red l 8 m) (mx y (mx (red l 8 m) (red l 8 m))) = mx y (mx (red l 8 m) (mx (red l 8 m) (red l 8 m))) by simp only [mx_assoc, mx_comm, mx_lc], mx_three, mx_zero hy] at this
/-- one lead more -/
theorem lead_more {l l' : Nat → Int} (h : EL l) {s : Nat} (hs : s < 8) (h0 : l s = 0) {v : Int} (h1 : l' s = v) (h2 : ∀ j, j < 8 → j ≠ s → l' j = l j) : ∀ k, k ≤ 8 → (k ≤ s → ∀ x, spn l' (-5) k x ↔ spn l (-5) k x) ∧ (s < k → ∀ x, spn l' (-5) k x ↔ ext (spn l (-5) k) v x) := by
  intro k
  induction k with
  | zero => intro _; exact ⟨fun _ x => Iff.rfl, fun z => by omega⟩
  | succ k ih =>
    intro hk
    obtain ⟨i1, i2⟩ := ih (by omega)
    refine ⟨fun hk2 x => ?_, fun hk2 x => ?_⟩
    · rw [spn_ne l' (-5) k (by omega), spn_ne l (-5) k (by omega), h2 k (by omega) (by omega)]
      exact ext_cong (i1 (by omega)) _ _
    · rw [spn_ne l' (-5) k (by omega)]
      by_cases e : k = s
      · subst e
        rw [h1, ext_cong (i1 (Nat.le_refl _))]
        refine ext_cong (fun y => ?_) v x
        rw [spn_ne l (-5) k (by omega), h0]
        exact (ext_zero (spn_sg l (-5) k).2.1 y).symm
      · rw [h2 k (by omega) e, ext_cong (i2 (by omega)), ext_comm (spn_sg l (-5) k).2.1]
        exact ext_cong (fun y => (spn_ne l (-5) k (by omega) y).symm) v x
