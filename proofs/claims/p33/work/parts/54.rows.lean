/-! a row: jars in order, accounts that add up -/
theorem unk_mod (k : Nat) : ∀ a b : Int, unk k (madd k a b) % 3 = (unk k a + unk k b) % 3 := by
  induction k with
  | zero => intro a b; rfl
  | succ k ih =>
    intro a b
    have h := ih (a / 3) (b / 3)
    rw [unk, madd_mod, madd_div, unk, unk]
    omega
theorem un_mod (a b : Int) : un (mx a b) % 3 = (un a + un b) % 3 := by rw [un_def, un_def, un_def, mx_def]; exact unk_mod 8 a b
theorem un_0 : un 0 = 0 := by rw [un_def]; exact unk_0 8
def OD (a : Nat → Int) (e : Int) : Prop := (∀ i j : Nat, i < j → (j : Int) < a 8 → a (9 + 2 * i) < a (9 + 2 * j)) ∧ (∀ j : Nat, (j : Int) < a 8 → a (9 + 2 * j) < a 33) ∧ a 8 ≤ 7 ∧ a 33 ≤ e
def BL (a : Nat → Int) : Prop := a 52 = a 53 + a 54 + a 55 + unF a (a 8).toNat 0 ∧ a 53 % 3 = 0
theorem fndF_at {a : Nat → Int} {v : Int} {i : Nat} (j : Nat) : ∀ k, k ≤ i → i < k + j → a (9 + 2 * i) = v → (∀ q, k ≤ q → q < i → a (9 + 2 * q) ≠ v) → fndF a v j k = i := by
  induction j with
  | zero => intro k h1 h2; omega
  | succ j ih =>
    intro k h1 h2 hv hq
    rw [fndF]
    by_cases c : k = i
    · subst c; rw [if_pos hv]
    · rw [if_neg (hq k (Nat.le_refl k) (by omega))]
      exact ih (k + 1) (by omega) (by omega) hv (fun q hq1 hq2 => hq q (by omega) hq2)
theorem fndF_no {a : Nat → Int} {v : Int} (j : Nat) : ∀ k, (∀ q, k ≤ q → q < k + j → a (9 + 2 * q) ≠ v) → fndF a v j k = -5 := by
  induction j with
  | zero => intro k _; rfl
  | succ j ih =>
    intro k hq
    rw [fndF, if_neg (hq k (Nat.le_refl k) (by omega))]
    exact ih (k + 1) (fun q h1 h2 => hq q (by omega) (by omega))
theorem fnd_at {a : Nat → Int} {e : Int} (h : OD a e) {i : Nat} (hi : (i : Int) < a 8) : fnd a (a (9 + 2 * i)) = i :=
  fndF_at (a 8).toNat 0 (Nat.zero_le i) (by omega) rfl (fun q _ hq => by have := h.1 q i hq hi; omega)
theorem unF_cong {a b : Nat → Int} (j : Nat) : ∀ k, (∀ q, k ≤ q → q < k + j → b (10 + 2 * q) = a (10 + 2 * q)) → unF b j k = unF a j k := by
  induction j with
  | zero => intro k _; rfl
  | succ j ih =>
    intro k h
    rw [unF, unF, h k (Nat.le_refl k) (by omega), ih (k + 1) (fun q h1 h2 => h q (by omega) (by omega))]
theorem unF_add (a : Nat → Int) (i j : Nat) : ∀ k, unF a (i + j) k = unF a i k + unF a j (k + i) := by
  induction i with
  | zero => intro k; rw [unF, Nat.zero_add, Nat.add_zero]; omega
  | succ i ih =>
    intro k
    rw [show i + 1 + j = i + j + 1 by omega, unF, unF, ih (k + 1), show k + 1 + i = k + (i + 1) by omega]
    omega
theorem unF_shift {a b : Nat → Int} (j : Nat) : ∀ k, (∀ q, k ≤ q → q < k + j → b (10 + 2 * q) = a (10 + 2 * (q + 1))) → unF b j k = unF a j (k + 1) := by
  induction j with
  | zero => intro k _; rfl
  | succ j ih =>
    intro k h
    rw [unF, unF, h k (Nat.le_refl k) (by omega), ih (k + 1) (fun q h1 h2 => h q (by omega) (by omega))]
theorem unF_1 (a : Nat → Int) (k : Nat) : unF a 1 k = un (a (10 + 2 * k)) := by rw [unF, unF]; omega
theorem unF_set {a b : Nat → Int} {n i : Nat} (hi : i < n) (h : ∀ q, q < n → q ≠ i → b (10 + 2 * q) = a (10 + 2 * q)) : unF b n 0 = unF a n 0 - un (a (10 + 2 * i)) + un (b (10 + 2 * i)) := by
  have e : n = i + (1 + (n - i - 1)) := by omega
  rw [e, unF_add, unF_add, unF_add, unF_add, unF_1, unF_1, unF_cong (a := a) (b := b) i 0 (fun q h1 h2 => h q (by omega) (by omega)), unF_cong (a := a) (b := b) (n - i - 1) (0 + i + 1) (fun q h1 h2 => h q (by omega) (by omega)), Nat.zero_add]
  omega
theorem unF_cut {a : Nat → Int} {k : Int} (hk : 0 ≤ k ∧ k < a 8) (h12 : a 8 ≤ 12) : unF (drp a k) (drp a k 8).toNat 0 = unF a (a 8).toNat 0 - un (mixA a k) := by
  have e : (a 8).toNat = k.toNat + (1 + ((a 8).toNat - k.toNat - 1)) := by omega
  have e2 : (drp a k 8).toNat = k.toNat + ((a 8).toNat - k.toNat - 1) := by rw [drp_8]; omega
  rw [e2, unF_add, unF_cong (a := a) (b := drp a k) k.toNat 0 (fun q h1 h2 => by rw [(drp_j hk h12 q (by omega)).2, if_neg (by omega)]), unF_shift (a := a) (b := drp a k) ((a 8).toNat - k.toNat - 1) (0 + k.toNat) (fun q h1 h2 => by rw [(drp_j hk h12 q (by omega)).2, if_pos (by omega)])]
  generalize hn : (a 8).toNat - k.toNat - 1 = n at e ⊢
  rw [e, unF_add a k.toNat, unF_add a 1, unF_1, mixA, Nat.zero_add]
  omega
section ROW
variable {a : Nat → Int} {e t : Int}
theorem OD_same {b : Nat → Int} (h : OD a e) (h8 : b 8 = a 8) (h33 : b 33 = a 33) (hn : ∀ q : Nat, (q : Int) < a 8 → b (9 + 2 * q) = a (9 + 2 * q)) : OD b (e + 1) := by
  obtain ⟨h1, h2, h3, h4⟩ := h
  refine ⟨fun i j hij hj => ?_, fun j hj => ?_, by omega, by omega⟩
  · rw [hn i (by omega), hn j (by omega)]; exact h1 i j hij (by omega)
  · rw [hn j (by omega), h33]; exact h2 j (by omega)
theorem BL_same {b : Nat → Int} (h : BL a) (h8 : b 8 = a 8) (h52 : b 52 = a 52) (h53 : b 53 = a 53) (h54 : b 54 = a 54) (h55 : b 55 = a 55) (hn : ∀ q : Nat, (q : Int) < a 8 → b (10 + 2 * q) = a (10 + 2 * q)) : BL b := by
  refine ⟨?_, by rw [h53]; exact h.2⟩
  rw [h52, h53, h54, h55, h8, unF_cong (a := a) (b := b) (a 8).toNat 0 (fun q _ hq => hn q (by omega))]
  exact h.1
theorem OD_drp {k : Int} (h : OD a e) (hk : 0 ≤ k ∧ k < a 8) : OD (drp a k) e := by
  obtain ⟨h1, h2, h3, h4⟩ := h
  have h33 : drp a k 33 = a 33 := drp_o hk (by omega) (by omega)
  refine ⟨fun i j hij hj => ?_, fun j hj => ?_, by rw [drp_8]; omega, by omega⟩
  · rw [drp_8] at hj
    rw [(drp_j hk (by omega) i (by omega)).1, (drp_j hk (by omega) j hj).1]
    split
    · rw [if_pos (by omega)]; exact h1 _ _ (by omega) (by omega)
    · split
      · exact h1 _ _ (by omega) (by omega)
      · exact h1 _ _ hij (by omega)
  · rw [drp_8] at hj
    rw [(drp_j hk (by omega) j hj).1, h33]
    split
    · exact h2 _ (by omega)
    · exact h2 _ (by omega)
theorem OD_up {i : Nat} {v : Int} (h : OD a e) (hi : i ≠ 8 ∧ i ≠ 33 ∧ ∀ q : Nat, (q : Int) < 7 → i ≠ 9 + 2 * q) : OD (up a i v) e := by
  obtain ⟨h1, h2, h3, h4⟩ := h
  have e8 : up a i v 8 = a 8 := up_ne (Ne.symm hi.1)
  have e33 : up a i v 33 = a 33 := up_ne (Ne.symm hi.2.1)
  refine ⟨fun k j hij hj => ?_, fun j hj => ?_, by omega, by omega⟩
  · rw [up_ne (Ne.symm (hi.2.2 k (by omega))), up_ne (Ne.symm (hi.2.2 j (by omega)))]; exact h1 k j hij (by omega)
  · rw [up_ne (Ne.symm (hi.2.2 j (by omega))), e33]; exact h2 j (by omega)
theorem OD_s {e' : Int} (h : OD a e) (he : e ≤ e') : OD a e' := ⟨h.1, h.2.1, h.2.2.1, by have := h.2.2.2; omega⟩
theorem r_jar {m p : Int} (w : Wf a t) (h : OD a e) (l : BL a) (c : a 8 ≤ 6) (c2 : a 33 < 200) : OD (sComes a m (un m) p).2 (e + 1) ∧ BL (sComes a m (un m) p).2 := by
  have w8 := w.2.1
  obtain ⟨n, hn⟩ := Int.eq_ofNat_of_zero_le w8.1
  obtain ⟨h1, h2, h3, h4⟩ := h
  have hs : (sComes a m (un m) p).2 = up (up (up (up (up (up (up a (9 + 2 * n) (a 33)) (10 + 2 * n) m) 8 (a 8 + 1)) 33 (a 33 + 1)) 52 (a 52 + un m)) 56 (a 56 + p)) 53 (a 53 + (un m - un m)) := by
    rw [sComes, if_neg (by omega), hn, Int.toNat_natCast]
  rw [hs]
  generalize hb : up (up (up (up (up (up (up a (9 + 2 * n) (a 33)) (10 + 2 * n) m) 8 (a 8 + 1)) 33 (a 33 + 1)) 52 (a 52 + un m)) 56 (a 56 + p)) 53 (a 53 + (un m - un m)) = b
  have b8 : b 8 = a 8 + 1 := by rw [← hb, up_ne (by omega), up_ne (by omega), up_ne (by omega), up_ne (by omega), up_same]
  have b33 : b 33 = a 33 + 1 := by rw [← hb, up_ne (by omega), up_ne (by omega), up_ne (by omega), up_same]
  have b52 : b 52 = a 52 + un m := by rw [← hb, up_ne (by omega), up_ne (by omega), up_same]
  have b53 : b 53 = a 53 := by rw [← hb, up_same]; omega
  have b54 : b 54 = a 54 := by rw [← hb, up_ne (by omega), up_ne (by omega), up_ne (by omega), up_ne (by omega), up_ne (by omega), up_ne (by omega), up_ne (by omega)]
  have b55 : b 55 = a 55 := by rw [← hb, up_ne (by omega), up_ne (by omega), up_ne (by omega), up_ne (by omega), up_ne (by omega), up_ne (by omega), up_ne (by omega)]
  have bn : b (9 + 2 * n) = a 33 := by rw [← hb, up_ne (by omega), up_ne (by omega), up_ne (by omega), up_ne (by omega), up_ne (by omega), up_ne (by omega), up_same]
  have bm : b (10 + 2 * n) = m := by rw [← hb, up_ne (by omega), up_ne (by omega), up_ne (by omega), up_ne (by omega), up_ne (by omega), up_same]
  have bq : ∀ q : Nat, q < n → b (9 + 2 * q) = a (9 + 2 * q) ∧ b (10 + 2 * q) = a (10 + 2 * q) := fun q hq => by
    constructor
    · rw [← hb, up_ne (by omega), up_ne (by omega), up_ne (by omega), up_ne (by omega), up_ne (by omega), up_ne (by omega), up_ne (by omega)]
    · rw [← hb, up_ne (by omega), up_ne (by omega), up_ne (by omega), up_ne (by omega), up_ne (by omega), up_ne (by omega), up_ne (by omega)]
  refine ⟨⟨fun i j hij hj => ?_, fun j hj => ?_, by omega, by omega⟩, ?_, by rw [b53]; exact l.2⟩
  · rw [(bq i (by omega)).1]
    by_cases z : j = n
    · subst z; rw [bn]; exact h2 i (by omega)
    · rw [(bq j (by omega)).1]; exact h1 i j hij (by omega)
  · rw [b33]
    by_cases z : j = n
    · subst z; rw [bn]; omega
    · rw [(bq j (by omega)).1]; have := h2 j (by omega); omega
  · have hb1 := l.1
    rw [b52, b53, b54, b55, b8, hn, show ((n : Int) + 1).toNat = n + 1 by omega, unF_add, unF_1, Nat.zero_add, bm, unF_cong (a := a) (b := b) n 0 (fun q _ hq => (bq q (by omega)).2)]
    rw [hn, Int.toNat_natCast] at hb1
    omega
theorem sPours_at {x y : Int} {i j : Nat} (hf : fnd a x = i) (hg : fnd a y = j) (hij : i ≠ j) : sPours a x y = if a (10 + 2 * i) = 0 then (-5, a) else (un (a (10 + 2 * i)) + un (a (10 + 2 * j)) - un (mx (a (10 + 2 * i)) (a (10 + 2 * j))), up (up (up a (10 + 2 * i) 0) (10 + 2 * j) (mx (a (10 + 2 * i)) (a (10 + 2 * j)))) 53 (a 53 + (un (a (10 + 2 * i)) + un (a (10 + 2 * j)) - un (mx (a (10 + 2 * i)) (a (10 + 2 * j)))))) := by
  rw [sPours, hf, hg, if_neg (by omega), if_neg (by omega)]
  unfold mixA
  rw [Int.toNat_natCast, Int.toNat_natCast]
theorem sMore_at {x : Int} {i : Nat} (hf : fnd a x = i) : sMore a x = if a (10 + 2 * i) = 0 then (-5, a) else (mx (a (10 + 2 * i)) (a (10 + 2 * i)), up (up (up (up a (10 + 2 * i) (mx (a (10 + 2 * i)) (a (10 + 2 * i)))) 52 (a 52 + un (a (10 + 2 * i)))) 56 (a 56 + prc a (a (10 + 2 * i)))) 53 (a 53 + (2 * un (a (10 + 2 * i)) - un (mx (a (10 + 2 * i)) (a (10 + 2 * i)))))) := by
  rw [sMore, hf, if_neg (by omega)]
  unfold mixA
  rw [Int.toNat_natCast]
theorem sThrow_at {x : Int} {i : Nat} (hf : fnd a x = i) : sThrow a x = (un (a (10 + 2 * i)), drp (up a 55 (a 55 + un (a (10 + 2 * i)))) i) := by
  rw [sThrow, hf, if_neg (by omega)]
  unfold mixA
  rw [Int.toNat_natCast]
theorem r_pour {i j : Nat} (w8 : a 8 ≤ 7) (h : OD a e) (l : BL a) (hi : (i : Int) < a 8) (hj : (j : Int) < a 8) (hij : i ≠ j) {b : Nat → Int} (hb : up (up (up a (10 + 2 * i) 0) (10 + 2 * j) (mx (a (10 + 2 * i)) (a (10 + 2 * j)))) 53 (a 53 + (un (a (10 + 2 * i)) + un (a (10 + 2 * j)) - un (mx (a (10 + 2 * i)) (a (10 + 2 * j))))) = b) : OD b (e + 1) ∧ BL b := by
  have b53 : b 53 = a 53 + (un (a (10 + 2 * i)) + un (a (10 + 2 * j)) - un (mx (a (10 + 2 * i)) (a (10 + 2 * j)))) := by rw [← hb, up_same]
  have bo : ∀ q : Nat, q ≠ 53 → q ≠ 10 + 2 * i → q ≠ 10 + 2 * j → b q = a q := fun q h1 h2 h3 => by rw [← hb, up_ne h1, up_ne h3, up_ne h2]
  have bi : b (10 + 2 * i) = 0 := by rw [← hb, up_ne (by omega), up_ne (by omega), up_same]
  have bj : b (10 + 2 * j) = mx (a (10 + 2 * i)) (a (10 + 2 * j)) := by rw [← hb, up_ne (by omega), up_same]
  refine ⟨OD_same h (bo 8 (by omega) (by omega) (by omega)) (bo 33 (by omega) (by omega) (by omega)) (fun q hq => bo _ (by omega) (by omega) (by omega)), ?_, ?_⟩
  · have l1 := l.1
    have e1 := unF_set (a := a) (b := up a (10 + 2 * i) 0) (n := (a 8).toNat) (i := i) (by omega) (fun q _ hq => up_ne (by omega))
    have e2 := unF_set (a := up a (10 + 2 * i) 0) (b := b) (n := (a 8).toNat) (i := j) (by omega) (fun q _ hq => by rw [← hb, up_ne (by omega), up_ne (by omega)])
    rw [up_same, un_0] at e1
    rw [up_ne (by omega), bj, e1] at e2
    rw [bo 52 (by omega) (by omega) (by omega), b53, bo 54 (by omega) (by omega) (by omega), bo 55 (by omega) (by omega) (by omega), bo 8 (by omega) (by omega) (by omega), e2]
    omega
  · have l2 := l.2
    have hm := un_mod (a (10 + 2 * i)) (a (10 + 2 * j))
    rw [b53]
    omega
theorem r_more {i : Nat} (h : OD a e) (l : BL a) (hi : (i : Int) < a 8) {p : Int} {b : Nat → Int} (hb : up (up (up (up a (10 + 2 * i) (mx (a (10 + 2 * i)) (a (10 + 2 * i)))) 52 (a 52 + un (a (10 + 2 * i)))) 56 p) 53 (a 53 + (2 * un (a (10 + 2 * i)) - un (mx (a (10 + 2 * i)) (a (10 + 2 * i))))) = b) : OD b (e + 1) ∧ BL b := by
  have w8 := h.2.2.1
  have b53 : b 53 = a 53 + (2 * un (a (10 + 2 * i)) - un (mx (a (10 + 2 * i)) (a (10 + 2 * i)))) := by rw [← hb, up_same]
  have b52 : b 52 = a 52 + un (a (10 + 2 * i)) := by rw [← hb, up_ne (by omega), up_ne (by omega), up_same]
  have bo : ∀ q : Nat, q ≠ 53 → q ≠ 56 → q ≠ 52 → q ≠ 10 + 2 * i → b q = a q := fun q h1 h2 h3 h4 => by rw [← hb, up_ne h1, up_ne h2, up_ne h3, up_ne h4]
  have bi : b (10 + 2 * i) = mx (a (10 + 2 * i)) (a (10 + 2 * i)) := by rw [← hb, up_ne (by omega), up_ne (by omega), up_ne (by omega), up_same]
  refine ⟨OD_same h (bo 8 (by omega) (by omega) (by omega) (by omega)) (bo 33 (by omega) (by omega) (by omega) (by omega)) (fun q hq => bo _ (by omega) (by omega) (by omega) (by omega)), ?_, ?_⟩
  · have l1 := l.1
    have e1 := unF_set (a := a) (b := b) (n := (a 8).toNat) (i := i) (by omega) (fun q _ hq => bo _ (by omega) (by omega) (by omega) (by omega))
    rw [bi] at e1
    rw [b52, b53, bo 54 (by omega) (by omega) (by omega) (by omega), bo 55 (by omega) (by omega) (by omega) (by omega), bo 8 (by omega) (by omega) (by omega) (by omega), e1]
    omega
  · have l2 := l.2
    have hm := un_mod (a (10 + 2 * i)) (a (10 + 2 * i))
    rw [b53]
    omega
theorem r_throw {i : Nat} (h : OD a e) (l : BL a) (hi : (i : Int) < a 8) : OD (drp (up a 55 (a 55 + un (a (10 + 2 * i)))) i) (e + 1) ∧ BL (drp (up a 55 (a 55 + un (a (10 + 2 * i)))) i) := by
  have w8 := h.2.2.1
  generalize hb : up a 55 (a 55 + un (a (10 + 2 * i))) = b
  have bo : ∀ q : Nat, q ≠ 55 → b q = a q := fun q h1 => by rw [← hb, up_ne h1]
  have b55 : b 55 = a 55 + un (a (10 + 2 * i)) := by rw [← hb, up_same]
  have b8 : b 8 = a 8 := bo 8 (by omega)
  have hk : (0 : Int) ≤ i ∧ (i : Int) < b 8 := by omega
  have hB := OD_same h b8 (bo 33 (by omega)) (fun q hq => bo _ (by omega))
  refine ⟨OD_drp hB hk, ?_, ?_⟩
  · have e1 := unF_cut hk (by omega)
    have e2 := unF_cong (a := a) (b := b) (a 8).toNat 0 (fun q _ hq => bo _ (by omega))
    have l1 := l.1
    have hm : mixA b (i : Int) = a (10 + 2 * i) := by unfold mixA; rw [Int.toNat_natCast]; exact bo _ (by omega)
    rw [drp_o hk (by omega) (j := 52) (by omega), drp_o hk (by omega) (j := 53) (by omega), drp_o hk (by omega) (j := 54) (by omega), drp_o hk (by omega) (j := 55) (by omega), e1, b55, bo 52 (by omega), bo 53 (by omega), bo 54 (by omega), b8, e2, hm]
    omega
  · rw [drp_o hk (by omega) (j := 53) (by omega), bo 53 (by omega)]
    exact l.2
theorem r_sell {k : Int} (h : OD a e) (l : BL a) (hk : 0 ≤ k ∧ k < a 8) : OD (sSell a k).2 (e + 1) ∧ BL (sSell a k).2 := by
  have w8 := h.2.2.1
  rw [sSell]
  dsimp only
  generalize hb : up (up (up a 54 (a 54 + un (mixA a k))) 57 (a 57 + (prc a (mixA a k) + prc a (mixA a k) / 2))) 58 (a 58 + 1) = b
  have bo : ∀ q : Nat, q ≠ 54 → q ≠ 57 → q ≠ 58 → b q = a q := fun q h1 h2 h3 => by rw [← hb, up_ne h3, up_ne h2, up_ne h1]
  have b54 : b 54 = a 54 + un (mixA a k) := by rw [← hb, up_ne (by omega), up_ne (by omega), up_same]
  have b8 : b 8 = a 8 := bo 8 (by omega) (by omega) (by omega)
  have hk' : 0 ≤ k ∧ k < b 8 := by omega
  have hB := OD_same h b8 (bo 33 (by omega) (by omega) (by omega)) (fun q hq => bo _ (by omega) (by omega) (by omega))
  refine ⟨OD_drp hB hk', ?_, ?_⟩
  · have e1 := unF_cut hk' (by omega)
    have e2 := unF_cong (a := a) (b := b) (a 8).toNat 0 (fun q _ hq => bo _ (by omega) (by omega) (by omega))
    have l1 := l.1
    have hm : mixA b k = mixA a k := by unfold mixA; exact bo _ (by omega) (by omega) (by omega)
    rw [drp_o hk' (by omega) (j := 52) (by omega), drp_o hk' (by omega) (j := 53) (by omega), drp_o hk' (by omega) (j := 54) (by omega), drp_o hk' (by omega) (j := 55) (by omega), e1, b54, bo 52 (by omega) (by omega) (by omega), bo 53 (by omega) (by omega) (by omega), bo 55 (by omega) (by omega) (by omega), b8, e2, hm]
    omega
  · rw [drp_o hk' (by omega) (j := 53) (by omega), bo 53 (by omega) (by omega) (by omega)]
    exact l.2
theorem r_drw (w : Wf a t) (h : OD a e) (l : BL a) (c : 0 < a 43) : OD (drw a) e ∧ BL (drw a) := by
  have w43 := w.2.2.2.2.2.2.1
  have h8 := h.2.2.1
  have o : ∀ j : Nat, (j < 43 ∨ 52 ≤ j) → drw a j = a j := fun j hj => drw_o c w43.2 hj
  refine ⟨⟨fun i j hij hj => ?_, fun j hj => ?_, ?_, ?_⟩, BL_same l (o 8 (by omega)) (o 52 (by omega)) (o 53 (by omega)) (o 54 (by omega)) (o 55 (by omega)) (fun q hq => o _ (by omega))⟩
  · rw [o 8 (by omega)] at hj
    rw [o _ (by omega), o _ (by omega)]; exact h.1 i j hij hj
  · rw [o 8 (by omega)] at hj
    rw [o _ (by omega), o _ (by omega)]; exact h.2.1 j hj
  · rw [o 8 (by omega)]; exact h8
  · rw [o 33 (by omega)]; exact h.2.2.2
theorem r_serve (w : Wf a t) (h : OD a e) (l : BL a) : OD (sServe a).2 (e + 1) ∧ BL (sServe a).2 := by
  have w43 := w.2.2.2.2.2.2.1
  rw [sServe]
  by_cases c : a 43 = 0
  · rw [if_pos c]; exact ⟨OD_s h (by omega), l⟩
  · rw [if_neg c]
    obtain ⟨o1, o2⟩ := r_drw w h l (by omega)
    have d8 : drw a 8 = a 8 := drw_o (by omega) w43.2 (by omega)
    have w8 := w.2.1
    have h7 := h.2.2.1
    have hb := fjF_b (drw a) (tau (sp a)) (tau (sp a) (a 44)) (a 8).toNat 0
    generalize fjF (drw a) (tau (sp a)) (tau (sp a) (a 44)) (a 8).toNat 0 = k at hb
    by_cases c2 : k = -5
    · rw [if_pos c2]
      have o : ∀ j : Nat, j ≠ 59 → (up (drw a) 59 (drw a 59 + 1)) j = drw a j := fun j hj => up_ne hj
      exact ⟨OD_same o1 (o 8 (by omega)) (o 33 (by omega)) (fun q hq => o _ (by omega)), BL_same o2 (o 8 (by omega)) (o 52 (by omega)) (o 53 (by omega)) (o 54 (by omega)) (o 55 (by omega)) (fun q hq => o _ (by omega))⟩
    · rw [if_neg c2]
      exact r_sell o1 o2 (by omega)
theorem r_rule {m : Int} (w : Wf a t) (h : OD a e) (l : BL a) : OD (sRule a m).2 (e + 1) ∧ BL (sRule a m).2 := by
  have w34 := w.2.2.2.2.1
  have h7 := h.2.2.1
  rw [sRule]
  split
  · exact ⟨OD_s h (by omega), l⟩
  · have o : ∀ j : Nat, (j < 34 ∨ 43 ≤ j) → (up (up a (35 + (a 34).toNat) m) 34 (a 34 + 1)) j = a j := fun j hj => by rw [up_ne (by omega), up_ne (by omega)]
    exact ⟨OD_same h (o 8 (by omega)) (o 33 (by omega)) (fun q hq => o _ (by omega)), BL_same l (o 8 (by omega)) (o 52 (by omega)) (o 53 (by omega)) (o 54 (by omega)) (o 55 (by omega)) (fun q hq => o _ (by omega))⟩
theorem r_want {m : Int} (w : Wf a t) (h : OD a e) (l : BL a) : OD (sWant a m).2 (e + 1) ∧ BL (sWant a m).2 := by
  have w43 := w.2.2.2.2.2.2.1
  have h7 := h.2.2.1
  rw [sWant]
  split
  · exact ⟨OD_s h (by omega), l⟩
  · have o : ∀ j : Nat, (j < 43 ∨ 52 ≤ j) → (up (up a (44 + (a 43).toNat) m) 43 (a 43 + 1)) j = a j := fun j hj => by rw [up_ne (by omega), up_ne (by omega)]
    exact ⟨OD_same h (o 8 (by omega)) (o 33 (by omega)) (fun q hq => o _ (by omega)), BL_same l (o 8 (by omega)) (o 52 (by omega)) (o 53 (by omega)) (o 54 (by omega)) (o 55 (by omega)) (fun q hq => o _ (by omega))⟩
theorem r_drr {k : Int} (w : Wf a t) (h : OD a e) (l : BL a) (hk : 0 ≤ k ∧ k < a 34) : OD (drr a k) (e + 1) ∧ BL (drr a k) := by
  have w34 := w.2.2.2.2.1
  have h7 := h.2.2.1
  have o : ∀ j : Nat, (j < 34 ∨ 43 ≤ j) → drr a k j = a j := fun j hj => drr_o hk w34.2 hj
  exact ⟨OD_same h (o 8 (by omega)) (o 33 (by omega)) (fun q hq => o _ (by omega)), BL_same l (o 8 (by omega)) (o 52 (by omega)) (o 53 (by omega)) (o 54 (by omega)) (o 55 (by omega)) (fun q hq => o _ (by omega))⟩
theorem r_price {x v : Int} (h : OD a e) (l : BL a) : OD (sPrice a x v).2 (e + 1) ∧ BL (sPrice a x v).2 := by
  have h7 := h.2.2.1
  rw [sPrice]
  split
  · exact ⟨OD_s h (by omega), l⟩
  · split
    · exact ⟨OD_s h (by omega), l⟩
    · split
      · exact ⟨OD_s h (by omega), l⟩
      · have o : ∀ j : Nat, 8 ≤ j → (up a x.toNat v) j = a j := fun j hj => up_ne (by omega)
        exact ⟨OD_same h (o 8 (by omega)) (o 33 (by omega)) (fun q hq => o _ (by omega)), BL_same l (o 8 (by omega)) (o 52 (by omega)) (o 53 (by omega)) (o 54 (by omega)) (o 55 (by omega)) (fun q hq => o _ (by omega))⟩
end ROW
