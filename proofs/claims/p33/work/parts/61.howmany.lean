/-! how many tastes there are at most -/
theorem leads_ex {a : Nat → Int} {ob : Option (Nat → Int)} {t : Int} {ν : Mem} (h : ST a ob t ν) : ∃ l : Nat → Int, EL l ∧ (∀ x, spn l (-5) 8 x ↔ sp a x) ∧ cnt l 8 = sr a := by
  obtain ⟨ν1, e, L, F⟩ := learn_Q h.1.1 h.1.2.1 h.1.2.2.1
  obtain ⟨μ', _, _, h1, h2, h3⟩ := findLeads_eq (b := -5) L.1 L.2.1
  exact ⟨μ' 5, h1, h2, h3⟩
def nl (l : Nat → Int) : Nat → Nat
  | 0 => 0
  | k + 1 => nl l k + (if l k = 0 then 1 else 0)
theorem nl_cnt (l : Nat → Int) (k : Nat) : cnt l k + nl l k = k := by
  induction k with
  | zero => rfl
  | succ k ih =>
    rw [cnt, nl]
    by_cases c : l k = 0
    · rw [if_pos c, if_pos c]; omega
    · rw [if_neg c, if_neg c]; omega
def pk (l : Nat → Int) (m : Int) : Nat → Int
  | 0 => 0
  | k + 1 => pk l m k + (if l k = 0 then dg k m * p3 (nl l k) else 0)
theorem dP_b {d P : Int} (hd : 0 ≤ d ∧ d < 3) (hP : 0 < P) : 0 ≤ d * P ∧ d * P ≤ 2 * P := by
  rcases (show d = 0 ∨ d = 1 ∨ d = 2 by omega) with rfl | rfl | rfl <;> omega
theorem pk_b (l : Nat → Int) (m : Int) (k : Nat) : 0 ≤ pk l m k ∧ pk l m k < p3 (nl l k) := by
  induction k with
  | zero => rw [pk, nl, p3]; omega
  | succ k ih =>
    have hd := dP_b (dg_b k m) (p3_pos (nl l k))
    rw [pk, nl]
    by_cases c : l k = 0
    · rw [if_pos c, if_pos c, p3]; omega
    · rw [if_neg c, if_neg c, Nat.add_zero, Int.add_zero]; exact ih
theorem pk_inj {l : Nat → Int} {m n : Int} (k : Nat) : pk l m k = pk l n k → ∀ j, j < k → l j = 0 → dg j m = dg j n := by
  induction k with
  | zero => intro _ j hj; omega
  | succ k ih =>
    intro h j hj h0
    have b1 := pk_b l m k
    have b2 := pk_b l n k
    have d1 := dg_b k m
    have d2 := dg_b k n
    rw [pk, pk] at h
    by_cases c : l k = 0
    · rw [if_pos c, if_pos c] at h
      have hh : pk l m k = pk l n k ∧ dg k m = dg k n := by
        generalize dg k m = x at d1 h ⊢
        generalize dg k n = y at d2 h ⊢
        rcases (show x = 0 ∨ x = 1 ∨ x = 2 by omega) with rfl | rfl | rfl <;> rcases (show y = 0 ∨ y = 1 ∨ y = 2 by omega) with rfl | rfl | rfl <;> omega
      by_cases z : j = k
      · subst z; exact hh.2
      · exact ih hh.1 j (by omega) h0
    · rw [if_neg c, if_neg c, Int.add_zero, Int.add_zero] at h
      by_cases z : j = k
      · subst z; exact absurd h0 c
      · exact ih h j (by omega) h0
theorem mS_cong {A B : Nat → Int} (k : Nat) (h : ∀ j, j < k → A j = B j) : mS A k = mS B k := by
  induction k with
  | zero => rfl
  | succ k ih => rw [mS, mS, ih (fun j hj => h j (by omega)), h k (by omega)]
theorem dg_ext {m n : Int} (hm : isM m) (hn : isM n) (h : ∀ j, j < 8 → dg j m = dg j n) : m = n := by
  rw [← mS_dg8 hm, ← mS_dg8 hn]
  exact mS_cong 8 h
noncomputable def hc (P : Nat → Prop) : Nat → Int
  | 0 => 0
  | M + 1 => hc P M + bi (P M)
theorem hc_le (P : Nat → Prop) (M : Nat) : hc P M ≤ M := by
  induction M with
  | zero => rw [hc]; omega
  | succ M ih => have := bi_b (P M); rw [hc]; omega
theorem hc_cong {P Q : Nat → Prop} (h : ∀ x, P x ↔ Q x) (M : Nat) : hc P M = hc Q M := by
  induction M with
  | zero => rfl
  | succ M ih => rw [hc, hc, ih, bi_cong (h M)]
theorem hc_0 {P : Nat → Prop} (h : ∀ x, ¬ P x) (M : Nat) : hc P M = 0 := by
  induction M with
  | zero => rfl
  | succ M ih => rw [hc, ih, bi_neg (h M)]; rfl
theorem hc_add {P Q : Nat → Prop} {v : Nat} (hP : ¬ P v) (hQ : ∀ x, Q x ↔ P x ∨ x = v) (M : Nat) : hc Q M = hc P M + (if v < M then 1 else 0) := by
  induction M with
  | zero => rw [hc, hc, if_neg (by omega)]; rfl
  | succ M ih =>
    rw [hc, hc, ih]
    by_cases c : M = v
    · subst c
      rw [bi_pos ((hQ M).mpr (Or.inr rfl)), bi_neg hP, if_neg (by omega), if_pos (by omega)]
    · have e : Q M ↔ P M := (hQ M).trans ⟨fun h => h.resolve_right c, Or.inl⟩
      rw [bi_cong e]
      by_cases d : v < M
      · rw [if_pos d, if_pos (by omega)]; omega
      · rw [if_neg d, if_neg (by omega)]; omega
theorem dst_hc {h : Nat → Int} {M : Nat} (N : Nat) (hb : ∀ m, m < N → 0 ≤ h m ∧ h m < (M : Int)) : dst h N = hc (fun v => ∃ m, m < N ∧ h m = (v : Int)) M := by
  induction N with
  | zero =>
    rw [dst, hc_0]
    rintro x ⟨m, hm, _⟩
    omega
  | succ N ih =>
    have i := ih (fun m hm => hb m (by omega))
    have hN := hb N (by omega)
    rw [dst, i]
    by_cases c : ∃ m, m < N ∧ h m = h N
    · rw [bi_neg (fun z => z c), Int.add_zero]
      refine hc_cong (fun v => ⟨fun ⟨m, h1, h2⟩ => ⟨m, by omega, h2⟩, fun ⟨m, h1, h2⟩ => ?_⟩) M
      by_cases z : m = N
      · subst z
        obtain ⟨q, h3, h4⟩ := c
        exact ⟨q, h3, h4.trans h2⟩
      · exact ⟨m, by omega, h2⟩
    · obtain ⟨v, hv⟩ := Int.eq_ofNat_of_zero_le hN.1
      have hq : ∀ x : Nat, (∃ m, m < N + 1 ∧ h m = (x : Int)) ↔ ((∃ m, m < N ∧ h m = (x : Int)) ∨ x = v) := by
        intro x
        constructor
        · rintro ⟨m, h1, h2⟩
          by_cases z : m = N
          · subst z
            right
            omega
          · exact Or.inl ⟨m, by omega, h2⟩
        · rintro (⟨m, h1, h2⟩ | z)
          · exact ⟨m, by omega, h2⟩
          · subst z
            exact ⟨N, by omega, hv⟩
      rw [bi_pos c, hc_add (P := fun v => ∃ m, m < N ∧ h m = (v : Int)) (v := v) (fun ⟨m, h1, h2⟩ => c ⟨m, h1, h2.trans hv.symm⟩) hq M, if_pos (by omega)]
theorem dst_inj {f g : Nat → Int} (N : Nat) (h : ∀ m k, m < N → k < N → (g m = g k ↔ f m = f k)) : dst g N = dst f N := by
  induction N with
  | zero => rfl
  | succ N ih =>
    rw [dst, dst, ih (fun m k hm hk => h m k (by omega) (by omega))]
    congr 1
    refine bi_cong ⟨fun c ⟨m, h1, h2⟩ => c ⟨m, h1, (h m N (by omega) (by omega)).mpr h2⟩, fun c ⟨m, h1, h2⟩ => c ⟨m, h1, (h m N (by omega) (by omega)).mp h2⟩⟩
theorem dst_1 (f : Nat → Int) (N : Nat) : 1 ≤ dst f (N + 1) := by
  induction N with
  | zero => rw [dst, dst, bi_pos (by rintro ⟨m, h, _⟩; omega)]; omega
  | succ N ih => have := bi_b (¬ ∃ m, m < N + 1 ∧ f m = f (N + 1)); rw [dst]; omega
theorem mkx_b {a : Nat → Int} {ob : Option (Nat → Int)} {t : Int} {ν : Mem} (h : ST a ob t ν) : 1 ≤ mkx a ∧ mkx a ≤ ((tw (a 8).toNat : Nat) : Int) ∧ mkx a ≤ p3 (8 - (sr a).toNat) := by
  obtain ⟨l, hE, hl, hc⟩ := leads_ex h
  have sg := sp_sg a
  have hs := spn_sg l (-5) 8
  have hz : ∀ {m : Int}, isM m → ∀ j, j < 8 → l j ≠ 0 → dg j (tau (sp a) m) = 0 := fun {m} hm j hj h0 => by
    rw [← tau_cong hl hs hm, red_tau hE hm]
    exact red_dg hE 8 (Nat.le_refl _) m j hj h0
  refine ⟨?_, (dst_b _ _).2, ?_⟩
  · obtain ⟨n, hn⟩ : ∃ n, tw (a 8).toNat = n + 1 := ⟨tw (a 8).toNat - 1, by have := tw_pos (a 8).toNat; omega⟩
    unfold mkx
    rw [hn]
    exact dst_1 _ n
  · have hnl := nl_cnt l 8
    have hnn := sr_nn a
    have hnl' : nl l 8 = 8 - (sr a).toNat := by omega
    unfold mkx
    have hi := dst_inj (f := fun s => tau (sp a) (SM (fun k => a (10 + 2 * k)) (a 8).toNat s)) (g := fun s => pk l (tau (sp a) (SM (fun k => a (10 + 2 * k)) (a 8).toNat s)) 8) (tw (a 8).toNat) (fun m k _ _ => by
      constructor
      · intro e
        have m1 := SM_M (fun k => a (10 + 2 * k)) (a 8).toNat m
        have m2 := SM_M (fun k => a (10 + 2 * k)) (a 8).toNat k
        refine dg_ext (tau_is sg m1).1 (tau_is sg m2).1 (fun j hj => ?_)
        by_cases c : l j = 0
        · exact pk_inj 8 e j hj c
        · rw [hz m1 j hj c, hz m2 j hj c]
      · intro e
        exact congrArg (fun x => pk l x 8) e)
    rw [← hi, dst_hc (M := pw3 (nl l 8)) _ (fun m _ => by rw [pw3_p3]; exact pk_b l _ 8), ← hnl', ← pw3_p3]
    exact hc_le _ _
