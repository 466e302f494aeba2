/-! what follows from rules: spans, tastes -/
theorem mx_lc (a b c : Int) : mx a (mx b c) = mx b (mx a c) := by rw [← mx_assoc, mx_comm a b, mx_assoc]
theorem mx_33 (a b : Int) : mx a (mx a (mx a b)) = mx 0 b := by rw [← mx_assoc a a b, ← mx_assoc a (mx a a) b, mx_three]
theorem mx_0m (a b : Int) : mx 0 (mx a b) = mx a b := mx_zero' (mx_isM a b)
theorem mx_m0 (a b : Int) : mx (mx a b) 0 = mx a b := mx_zero (mx_isM a b)
noncomputable def bi (p : Prop) : Int := @ite Int p (Classical.propDecidable p) 1 0
theorem bi_pos {p : Prop} (h : p) : bi p = 1 := by unfold bi; exact if_pos h
theorem bi_neg {p : Prop} (h : ¬ p) : bi p = 0 := by unfold bi; exact if_neg h
theorem bi_cong {p q : Prop} (h : p ↔ q) : bi p = bi q := by
  rcases Classical.em p with hp | hp
  · rw [bi_pos hp, bi_pos (h.mp hp)]
  · rw [bi_neg hp, bi_neg (fun z => hp (h.mpr z))]
theorem bi_1 {p : Prop} : bi p = 1 ↔ p := by
  rcases Classical.em p with hp | hp
  · rw [bi_pos hp]; exact ⟨fun _ => hp, fun _ => rfl⟩
  · rw [bi_neg hp]; exact ⟨fun h => by omega, fun h => absurd h hp⟩
theorem bi_0 {p : Prop} : bi p = 0 ↔ ¬ p := by
  rcases Classical.em p with hp | hp
  · rw [bi_pos hp]; exact ⟨fun h => by omega, fun h => absurd hp h⟩
  · rw [bi_neg hp]; exact ⟨fun _ => hp, fun _ => rfl⟩
theorem bi_b (p : Prop) : bi p = 0 ∨ bi p = 1 := by
  rcases Classical.em p with hp | hp
  · exact Or.inr (bi_pos hp)
  · exact Or.inl (bi_neg hp)
def Sg (P : Int → Prop) : Prop := P 0 ∧ (∀ x, P x → isM x) ∧ ∀ x y, P x → P y → P (mx x y)
def ext (P : Int → Prop) (r x : Int) : Prop := P x ∨ (isM x ∧ (P (mx x r) ∨ P (mx x (mx r r))))
theorem ext_sg {P : Int → Prop} (h : Sg P) (r : Int) : Sg (ext P r) := by
  obtain ⟨h0, hm, ha⟩ := h
  refine ⟨Or.inl h0, fun x hx => ?_, fun x y hx hy => ?_⟩
  · rcases hx with hx | hx
    · exact hm x hx
    · exact hx.1
  · rcases hx with hx | ⟨mx1, hx | hx⟩ <;> rcases hy with hy | ⟨my1, hy | hy⟩
    · exact Or.inl (ha _ _ hx hy)
    · refine Or.inr ⟨mx_isM _ _, Or.inl ?_⟩
      have := ha _ _ hx hy
      rwa [← mx_assoc] at this
    · refine Or.inr ⟨mx_isM _ _, Or.inr ?_⟩
      have := ha _ _ hx hy
      rwa [← mx_assoc] at this
    · refine Or.inr ⟨mx_isM _ _, Or.inl ?_⟩
      have := ha _ _ hx hy
      rwa [mx_assoc, mx_comm r y, ← mx_assoc] at this
    · refine Or.inr ⟨mx_isM _ _, Or.inr ?_⟩
      have := ha _ _ hx hy
      rwa [show mx (mx x r) (mx y r) = mx (mx x y) (mx r r) by simp only [mx_assoc, mx_comm, mx_lc]] at this
    · refine Or.inl ?_
      have := ha _ _ hx hy
      rwa [show mx (mx x r) (mx y (mx r r)) = mx (mx x y) (mx r (mx r r)) by simp only [mx_assoc, mx_comm, mx_lc], mx_three, mx_m0] at this
    · refine Or.inr ⟨mx_isM _ _, Or.inr ?_⟩
      have := ha _ _ hx hy
      rwa [show mx (mx x (mx r r)) y = mx (mx x y) (mx r r) by simp only [mx_assoc, mx_comm, mx_lc]] at this
    · refine Or.inl ?_
      have := ha _ _ hx hy
      rwa [show mx (mx x (mx r r)) (mx y r) = mx (mx x y) (mx r (mx r r)) by simp only [mx_assoc, mx_comm, mx_lc], mx_three, mx_m0] at this
    · refine Or.inr ⟨mx_isM _ _, Or.inl ?_⟩
      have := ha _ _ hx hy
      rwa [show mx (mx x (mx r r)) (mx y (mx r r)) = mx (mx (mx x y) r) (mx r (mx r r)) by simp only [mx_assoc, mx_comm, mx_lc], mx_three, mx_m0] at this
theorem ext_in {P : Int → Prop} (h : Sg P) {r : Int} (hr : P r) (x : Int) : ext P r x ↔ P x := by
  obtain ⟨h0, hm, ha⟩ := h
  refine ⟨fun hx => ?_, Or.inl⟩
  rcases hx with hx | ⟨mx1, hx | hx⟩
  · exact hx
  · have := ha _ _ hx (ha _ _ hr hr)
    rwa [mx_assoc, mx_three, mx_zero mx1] at this
  · have := ha _ _ hx hr
    rwa [mx_assoc, mx_comm (mx r r) r, mx_three, mx_zero mx1] at this
theorem ext_r {P : Int → Prop} (h : Sg P) {r : Int} (hr : isM r) : ext P r r := Or.inr ⟨hr, Or.inr (by rw [mx_three]; exact h.1)⟩
theorem ext_cong {P Q : Int → Prop} (h : ∀ x, P x ↔ Q x) (r x : Int) : ext P r x ↔ ext Q r x := by
  unfold ext
  rw [h, h, h]
/-- the span of the first k rules, but one -/
def spn (r : Nat → Int) (b : Int) : Nat → Int → Prop
  | 0 => fun x => x = 0
  | k + 1 => fun x => spn r b k x ∨ ((k : Int) ≠ b ∧ ext (spn r b k) (r k) x)
theorem sg_zero : Sg (fun x => x = 0) := ⟨rfl, fun x h => by subst h; exact ⟨by decide, by decide⟩, fun x y hx hy => by subst hx; subst hy; exact mx_zero ⟨by decide, by decide⟩⟩
theorem spn_eq (r : Nat → Int) (b : Int) (k : Nat) (h : (k : Int) = b) (x : Int) : spn r b (k + 1) x ↔ spn r b k x := ⟨fun hx => hx.elim id (fun z => absurd h z.1), Or.inl⟩
theorem spn_ne (r : Nat → Int) (b : Int) (k : Nat) (h : (k : Int) ≠ b) (x : Int) : spn r b (k + 1) x ↔ ext (spn r b k) (r k) x := ⟨fun hx => hx.elim Or.inl (fun z => z.2), fun hx => Or.inr ⟨h, hx⟩⟩
theorem sg_cong {P Q : Int → Prop} (h : ∀ x, P x ↔ Q x) (hP : Sg P) : Sg Q := ⟨(h 0).mp hP.1, fun x hx => hP.2.1 x ((h x).mpr hx), fun x y hx hy => (h _).mp (hP.2.2 x y ((h x).mpr hx) ((h y).mpr hy))⟩
theorem spn_sg (r : Nat → Int) (b : Int) (k : Nat) : Sg (spn r b k) := by
  induction k with
  | zero => exact sg_zero
  | succ k ih =>
    by_cases h : (k : Int) = b
    · exact sg_cong (fun x => (spn_eq r b k h x).symm) ih
    · exact sg_cong (fun x => (spn_ne r b k h x).symm) (ext_sg ih (r k))
theorem spn_cong {r q : Nat → Int} (b : Int) : ∀ (k : Nat), (∀ j, j < k → r j = q j) → ∀ x, spn r b k x ↔ spn q b k x := by
  intro k
  induction k with
  | zero => intro _ x; exact Iff.rfl
  | succ k ih =>
    intro h x
    have i1 := ih (fun j hj => h j (by omega))
    unfold spn
    rw [i1, h k (by omega), ext_cong i1]
noncomputable def rk (r : Nat → Int) (b : Int) : Nat → Int
  | 0 => 0
  | k + 1 => rk r b k + bi ((k : Int) ≠ b ∧ ¬ spn r b k (r k))
theorem rk_b (r : Nat → Int) (b : Int) (k : Nat) : 0 ≤ rk r b k ∧ rk r b k ≤ k := by
  induction k with
  | zero => simp only [rk]; omega
  | succ k ih =>
    simp only [rk]
    rcases bi_b ((k : Int) ≠ b ∧ ¬ spn r b k (r k)) with h | h <;> rw [h] <;> omega
theorem rk_cong {r q : Nat → Int} (b : Int) : ∀ (k : Nat), (∀ j, j < k → r j = q j) → rk r b k = rk q b k := by
  intro k
  induction k with
  | zero => intro _; rfl
  | succ k ih =>
    intro h
    simp only [rk]
    rw [ih (fun j hj => h j (by omega)), h k (by omega)]
    congr 1
    exact bi_cong (by rw [spn_cong b k (fun j hj => h j (by omega))])
/-! tastes: the least number of all that are alike -/
def eqv (S : Int → Prop) (a b : Int) : Prop := S (mx a (mx b b))
theorem eqv_rf {S : Int → Prop} (h : Sg S) (a : Int) : eqv S a a := by unfold eqv; rw [mx_three]; exact h.1
theorem eqv_sm {S : Int → Prop} (h : Sg S) {a b : Int} (hb : isM b) (e : eqv S a b) : eqv S b a := by
  have := h.2.2 _ _ e e
  unfold eqv
  rwa [show mx (mx a (mx b b)) (mx a (mx b b)) = mx (mx a a) (mx b (mx b (mx b b))) by simp only [mx_assoc, mx_comm, mx_lc], mx_33, mx_zero' hb, mx_comm] at this
theorem eqv_tr {S : Int → Prop} (h : Sg S) {a b c : Int} (e : eqv S a b) (f : eqv S b c) : eqv S a c := by
  have := h.2.2 _ _ e f
  unfold eqv
  rwa [show mx (mx a (mx b b)) (mx b (mx c c)) = mx (mx a (mx c c)) (mx b (mx b b)) by simp only [mx_assoc, mx_comm, mx_lc], mx_three, mx_m0] at this
theorem least {P : Nat → Prop} : ∀ n, P n → ∃ t, P t ∧ ∀ y, P y → t ≤ y := by
  intro n
  induction n using Nat.strongRecOn with
  | ind n ih =>
    intro hn
    rcases Classical.em (∃ m, m < n ∧ P m) with ⟨m, h1, h2⟩ | h
    · exact ih m h1 h2
    · refine ⟨n, hn, fun y hy => ?_⟩
      rcases Nat.lt_or_ge y n with q | q
      · exact absurd ⟨y, q, hy⟩ h
      · exact q
def IsT (S : Int → Prop) (m t : Int) : Prop := isM t ∧ eqv S m t ∧ ∀ y, isM y → eqv S m y → t ≤ y
theorem isT_ex {S : Int → Prop} (h : Sg S) {m : Int} (hm : isM m) : ∃ t, IsT S m t := by
  obtain ⟨t, ⟨h1, h2⟩, h3⟩ := least (P := fun n => isM (n : Int) ∧ eqv S m (n : Int)) m.toNat (by
    have : ((m.toNat : Nat) : Int) = m := by have := hm.1; omega
    rw [this]; exact ⟨hm, eqv_rf h m⟩)
  refine ⟨t, h1, h2, fun y hy he => ?_⟩
  have e : ((y.toNat : Nat) : Int) = y := by have := hy.1; omega
  have := h3 y.toNat (by rw [e]; exact ⟨hy, he⟩)
  have := hy.1
  omega
noncomputable def tau (S : Int → Prop) (m : Int) : Int := @dite Int (∃ t, IsT S m t) (Classical.propDecidable _) (fun h => Classical.choose h) (fun _ => 0)
theorem tau_is {S : Int → Prop} (h : Sg S) {m : Int} (hm : isM m) : IsT S m (tau S m) := by
  have hx := isT_ex h hm
  have : tau S m = Classical.choose hx := by unfold tau; exact dif_pos hx
  rw [this]
  exact Classical.choose_spec hx
theorem isT_un {S : Int → Prop} {m t u : Int} (h1 : IsT S m t) (h2 : IsT S m u) : t = u := by
  have a := h1.2.2 u h2.1 h2.2.1
  have b := h2.2.2 t h1.1 h1.2.1
  omega
theorem tau_of {S : Int → Prop} (h : Sg S) {m t : Int} (hm : isM m) (ht : IsT S m t) : tau S m = t := isT_un (tau_is h hm) ht
theorem tau_le {S : Int → Prop} (h : Sg S) {m : Int} (hm : isM m) : tau S m ≤ m := (tau_is h hm).2.2 m hm (eqv_rf h m)
theorem tau_eq {S : Int → Prop} (h : Sg S) {a b : Int} (ha : isM a) (hb : isM b) : tau S a = tau S b ↔ eqv S a b := by
  have h1 := tau_is h ha
  have h2 := tau_is h hb
  refine ⟨fun e => ?_, fun e => ?_⟩
  · refine eqv_tr h h1.2.1 ?_
    rw [e]
    exact eqv_sm h h2.1 h2.2.1
  · refine isT_un h1 ⟨h2.1, eqv_tr h e h2.2.1, fun y hy hay => h2.2.2 y hy (eqv_tr h (eqv_sm h hb e) hay)⟩
theorem tau_cong {S Q : Int → Prop} (h : ∀ x, S x ↔ Q x) (hS : Sg S) {m : Int} (hm : isM m) : tau S m = tau Q m := by
  have h1 := tau_is hS hm
  refine (tau_of (sg_cong h hS) hm ⟨h1.1, (h _).mp h1.2.1, fun y hy e => h1.2.2 y hy ((h _).mpr e)⟩).symm
theorem tau_0 {S : Int → Prop} (h : Sg S) {m : Int} (hm : isM m) : tau S m = 0 ↔ S m := by
  have z : isM 0 := ⟨by decide, by decide⟩
  have t0 : tau S 0 = 0 := by
    have := tau_le h z
    have := (tau_is h z).1.1
    omega
  have := tau_eq h hm z
  rw [t0] at this
  rw [this]
  unfold eqv
  rw [mx_zero z, mx_zero hm]
theorem tau_tau {S : Int → Prop} (h : Sg S) {m : Int} (hm : isM m) : tau S (tau S m) = tau S m := (tau_eq h (tau_is h hm).1 hm).mpr (eqv_sm h (tau_is h hm).1 (tau_is h hm).2.1)
