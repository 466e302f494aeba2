/-! the law: rules, dropped one by one and taken back -/
theorem bi_no {p : Prop} (h : ¬ p) : bi p = 0 := bi_neg h
theorem cut_lo {r s : Nat → Int} {k : Nat} (hlo : ∀ i, i < k → s i = r i) : ∀ q, q ≤ k → (∀ x, spn s (-5) q x ↔ spn r k q x) ∧ rk s (-5) q = rk r k q := by
  intro q
  induction q with
  | zero => intro _; exact ⟨fun x => Iff.rfl, rfl⟩
  | succ q ih =>
    intro hq
    obtain ⟨i1, i2⟩ := ih (by omega)
    refine ⟨fun x => ?_, ?_⟩
    · rw [spn_ne s (-5) q (by omega), spn_ne r k q (by omega), hlo q (by omega), ext_cong i1]
    · rw [rk, rk, i2, hlo q (by omega)]
      congr 1
      refine bi_cong ?_
      rw [i1]
      exact ⟨fun h => ⟨by omega, h.2⟩, fun h => ⟨by omega, h.2⟩⟩
theorem cut_hi {r s : Nat → Int} {k n : Nat} (hlo : ∀ i, i < k → s i = r i) (hhi : ∀ i, k ≤ i → i < n → s i = r (i + 1)) : ∀ q, k ≤ q → q ≤ n → (∀ x, spn s (-5) q x ↔ spn r k (q + 1) x) ∧ rk s (-5) q = rk r k (q + 1) := by
  intro q
  induction q with
  | zero =>
    intro hk _
    obtain rfl : k = 0 := by omega
    refine ⟨fun x => (spn_eq r ((0 : Nat) : Int) 0 rfl x).symm, ?_⟩
    rw [rk, rk, rk, bi_no (fun h => h.1 rfl)]
    rfl
  | succ q ih =>
    intro hk hn
    by_cases c : k = q + 1
    · subst c
      obtain ⟨i1, i2⟩ := cut_lo hlo (q + 1) (Nat.le_refl _)
      refine ⟨fun x => (i1 x).trans (spn_eq r _ (q + 1) rfl x).symm, ?_⟩
      rw [i2, rk.eq_2 r _ (q + 1), bi_no (fun h => h.1 rfl), Int.add_zero]
    · obtain ⟨i1, i2⟩ := ih (by omega) (by omega)
      refine ⟨fun x => ?_, ?_⟩
      · rw [spn_ne s (-5) q (by omega), spn_ne r k (q + 1) (by omega), hhi q (by omega) (by omega), ext_cong i1]
      · rw [rk.eq_2 s (-5) q, rk.eq_2 r _ (q + 1), i2, hhi q (by omega) (by omega)]
        congr 1
        refine bi_cong ?_
        rw [i1]
        exact ⟨fun h => ⟨by omega, h.2⟩, fun h => ⟨by omega, h.2⟩⟩
theorem sr_drr {a : Nat → Int} {t : Int} (w : Wf a t) {k : Nat} (hk : (k : Int) < a 34) : sr (drr a k) = rk (rf a) k (rn a) := by
  have w34 := w.2.2.2.2.1
  have hk' : (0 : Int) ≤ k ∧ (k : Int) < a 34 := by omega
  have hn : rn (drr a k) = rn a - 1 := by unfold rn; rw [drr_34]; omega
  have h := (cut_hi (r := rf a) (s := rf (drr a k)) (k := k) (n := rn a - 1) (fun i hi => by
    unfold rf; rw [drr_j hk' w34.2 i (by omega), if_neg (by omega)]) (fun i h1 h2 => by
    unfold rf; rw [drr_j hk' w34.2 i (by unfold rn at h2; omega), if_pos (by omega)]) (rn a - 1) (by unfold rn; omega) (Nat.le_refl _)).2
  unfold sr
  rw [hn, h, show rn a - 1 + 1 = rn a by unfold rn; omega]
theorem rk_out {r : Nat → Int} {k : Nat} : ∀ q, k < q → rk r k q ≤ (q : Int) - 1 := by
  intro q
  induction q with
  | zero => intro h; omega
  | succ q ih =>
    intro h
    rw [rk]
    by_cases c : k = q
    · subst c
      have := rk_b r k k
      rw [bi_no (fun h => h.1 rfl)]
      omega
    · have := ih (by omega)
      rcases bi_b ((q : Int) ≠ k ∧ ¬ spn r k q (r q)) with h | h <;> rw [h] <;> omega
theorem rk_full {r : Nat → Int} : ∀ n, rk r (-5) n < n → ∃ k, k < n ∧ spn r (-5) k (r k) := by
  intro n
  induction n with
  | zero => intro h; rw [rk] at h; omega
  | succ n ih =>
    intro h
    rw [rk] at h
    by_cases c : spn r (-5) n (r n)
    · exact ⟨n, by omega, c⟩
    · rw [bi_pos ⟨by omega, c⟩] at h
      obtain ⟨k, h1, h2⟩ := ih (by omega)
      exact ⟨k, by omega, h2⟩
theorem same_lo {r : Nat → Int} {k : Nat} : ∀ q, q ≤ k → (∀ x, spn r k q x ↔ spn r (-5) q x) ∧ rk r k q = rk r (-5) q := by
  intro q hq
  obtain ⟨i1, i2⟩ := cut_lo (r := r) (s := r) (k := k) (fun _ _ => rfl) q hq
  exact ⟨fun x => (i1 x).symm, i2.symm⟩
theorem same_hi {r : Nat → Int} {k : Nat} (hs : spn r (-5) k (r k)) : ∀ q, k < q → (∀ x, spn r k q x ↔ spn r (-5) q x) ∧ rk r k q = rk r (-5) q := by
  intro q
  induction q with
  | zero => intro h; omega
  | succ q ih =>
    intro h
    by_cases c : k = q
    · subst c
      obtain ⟨i1, i2⟩ := same_lo (r := r) (k := k) k (Nat.le_refl _)
      refine ⟨fun x => ?_, ?_⟩
      · rw [spn_eq r k k rfl, i1, spn_ne r (-5) k (by omega), ext_in (spn_sg r (-5) k) hs]
      · rw [rk, rk, i2, bi_no (fun h => h.1 rfl), bi_no (fun h => h.2 hs)]
    · obtain ⟨i1, i2⟩ := ih (by omega)
      refine ⟨fun x => ?_, ?_⟩
      · rw [spn_ne r k q (by omega), spn_ne r (-5) q (by omega), ext_cong i1]
      · rw [rk, rk, i2]
        congr 1
        refine bi_cong ?_
        rw [i1]
        exact ⟨fun h => ⟨by omega, h.2⟩, fun h => ⟨by omega, h.2⟩⟩
theorem isN_full {r : Nat → Int} {n : Nat} {v : Int} (h : IsN r n v) : v = -5 ↔ rk r (-5) n = n := by
  have hb := rk_b r (-5) n
  constructor
  · intro hv
    rcases h with ⟨_, h⟩ | ⟨i, hi, hvi, _⟩
    · refine Classical.byContradiction fun c => ?_
      obtain ⟨k, h1, h2⟩ := rk_full n (by omega : rk r (-5) n < n)
      exact h k h1 (same_hi h2 n h1).2
    · omega
  · intro hf
    rcases h with h | ⟨i, hi, _, he, _⟩
    · exact h.1
    · have := rk_out (r := r) (k := i) n hi
      omega
section RUL
variable {a : Nat → Int} {ob : Option (Nat → Int)} {t e : Int}
def NP (r : Nat → Int) (n k : Nat) (v : Int) : Prop := (v = -5 ∧ ∀ i : Nat, k ≤ i → i < n → rk r i n ≠ rk r (-5) n) ∨ ∃ i : Nat, k ≤ i ∧ i < n ∧ v = i ∧ rk r i n = rk r (-5) n ∧ ∀ q : Nat, k ≤ q → q < i → rk r q n ≠ rk r (-5) n
theorem rul_lp {v u : Int} (hv : IsN (rf a) (rn a) v) (k : Nat) : ∀ (n : Nat) (f t : Int) (ν : Mem), (k : Int) ≤ a 34 → k < n → 0 ≤ t → t + 100000 * k ≤ u → ST a none t ν → NP (rf a) (rn a) k f → AN (xl_areRulesSo_27 n (sr a) v f (a 34) ((k : Int) - 1) ν) 1 (ST a none u) := by
  induction k with
  | zero =>
    intro n f t ν hk hn h0 hu h hf
    obtain ⟨n, rfl⟩ : ∃ m, n = m + 1 := ⟨n - 1, by omega⟩
    have w34 := h.1.1.2.2.2.2.1
    have hfv : f = v := by
      refine isN_un (r := rf a) (k := rn a) ?_ hv
      rcases hf with ⟨h1, h2⟩ | ⟨i, _, h2, h3, h4, h5⟩
      · exact Or.inl ⟨h1, fun i hi => h2 i (Nat.zero_le i) hi⟩
      · exact Or.inr ⟨i, h2, h3, h4, fun q hq => h5 q (Nat.zero_le q) hq⟩
    have hq := isN_full hv
    have hn34 : ((rn a : Nat) : Int) = a 34 := by unfold rn; omega
    have hiff : v = -5 ↔ sr a = a 34 := by rw [← hn34]; exact hq
    have fin : ∀ s : Int, AN (xl_areRulesSo_92 (a 34) s s ν) 1 (ST a none u) := fun s => by
      rw [xl_areRulesSo_92, if_pos rfl]
      refine (q_c1 h).bind fun ν1 h1 => ?_
      dsimp only
      rw [if_pos rfl, xl_areRulesSo_110, if_pos (Or.inr rfl)]
      exact AN.ret (ST_n h1 (by omega))
    rw [xl_areRulesSo_27, if_pos (by omega), xl_areRulesSo_65, if_pos hfv]
    by_cases z : v = -5
    · rw [if_pos z, xl_areRulesSo_81, if_pos (hiff.mp z)]
      exact fin 1
    · rw [if_neg z, xl_areRulesSo_81, if_neg (fun y => z (hiff.mpr y))]
      exact fin 0
  | succ k ih =>
    intro n f t ν hk hn h0 hu h hf
    obtain ⟨n, rfl⟩ : ∃ m, n = m + 1 := ⟨n - 1, by omega⟩
    have w34 := h.1.1.2.2.2.2.1
    have hk1 : (k : Int) < a 34 := by omega
    have ek : ((k + 1 : Nat) : Int) - 1 = (k : Int) := by omega
    have e3 : w32 ((k : Int) + (-1)) = (k : Int) - 1 := by rw [w32_eq (by omega) (by omega)]; omega
    have hd := sr_drr h.1.1 hk1
    rw [xl_areRulesSo_27, ek, if_neg (by omega)]
    refine (a_drop h (x := (k : Int)) (by omega)).bind fun ν1 h1 => ?_
    obtain ⟨s, s0, un⟩ := a_undo h1
    dsimp only
    rw [bnd_eq, hd]
    by_cases z : rk (rf a) k (rn a) = sr a
    · rw [if_pos z, xl_areRulesSo_52]
      refine un.bind fun ν2 h2 => ?_
      dsimp only
      rw [bnd_eq, bnd_eq, e3]
      exact ih n k (t + 100000) ν2 (by omega) (by omega) (by omega) (by omega) h2 (Or.inr ⟨k, Nat.le_refl k, by unfold rn; omega, rfl, z, fun q h1 h2 => by omega⟩)
    · rw [if_neg z, xl_areRulesSo_52]
      refine un.bind fun ν2 h2 => ?_
      dsimp only
      rw [bnd_eq, bnd_eq, e3]
      refine ih n f (t + 100000) ν2 (by omega) (by omega) (by omega) (by omega) h2 ?_
      rcases hf with ⟨h1, h2⟩ | ⟨i, h1, h2, h3, h4, h5⟩
      · refine Or.inl ⟨h1, fun i h3 h4 => ?_⟩
        by_cases c : i = k
        · subst c; exact z
        · exact h2 i (by omega) h4
      · refine Or.inr ⟨i, by omega, h2, h3, h4, fun q h6 h7 => ?_⟩
        by_cases c : q = k
        · subst c; exact z
        · exact h5 q (by omega) h7
theorem l_rules {ν : Mem} (h : ST a ob t ν) (h0 : 0 ≤ t) : AN (xl_areRulesSo ν) 1 (ST a none (t + 800000)) := by
  have w34 := h.1.1.2.2.2.2.1
  rw [xl_areRulesSo]
  refine (q_c2 h).bind fun ν1 h1 => ?_
  dsimp only
  rw [bnd_eq]
  obtain ⟨v, hv, hq⟩ := q_need h1
  refine hq.bind fun ν2 h2 => ?_
  dsimp only
  rw [bnd_eq]
  refine (q_c1 h2).bind fun ν3 h3 => ?_
  dsimp only
  rw [bnd_eq, w32_eq (by omega) (by omega), bnd_eq, show a 34 - 1 = (((a 34).toNat : Nat) : Int) - 1 by omega]
  exact rul_lp hv (a 34).toNat FU (-5) t ν3 (by omega) (by have := FU_ge; omega) h0 (by omega) (ST_n h3 (by omega)) (Or.inl ⟨rfl, fun i h1 h2 => by unfold rn at h2; omega⟩)
end RUL
