/-! how far an order goes -/
section TXT10
variable {tx : Nat → Int} {len : Nat}
theorem wdP_len (cs : List Int) : ∀ p, (wdP tx len cs (true, p)).1 = true → (wdP tx len cs (true, p)).2 = p + cs.length := by
  induction cs with
  | nil => intro p _; rfl
  | cons c cs ih =>
    intro p h
    rw [wdP] at h ⊢
    by_cases d : nxt tx len c c p
    · have hs : sgP tx len c c (true, p) = (true, p + 1) := by rw [sgP, if_pos ⟨rfl, d⟩]
      rw [hs] at h ⊢
      rw [ih (p + 1) h, List.length_cons]
      omega
    · have hs : sgP tx len c c (true, p) = (false, p) := by rw [sgP, if_neg (fun z => d z.2)]
      rw [hs, wdP_f] at h
      exact Bool.noConfusion h
theorem wdP_ge (cs : List Int) : ∀ s : Bool × Nat, s.2 ≤ (wdP tx len cs s).2 := by
  induction cs with
  | nil => intro s; exact Nat.le_refl _
  | cons c cs ih =>
    intro s
    refine Nat.le_trans ?_ (ih _)
    unfold sgP
    split
    · exact Nat.le_succ _
    · exact Nat.le_refl _
theorem wS_b {p : Nat} (hp : p ≤ len) : p ≤ (wS tx len p).2 ∧ (wS tx len p).2 ≤ len ∧ ((wS tx len p).1 = true → p + 4 ≤ (wS tx len p).2) := by
  refine ⟨wdP_ge _ (true, p), wdP_le _ _ hp, fun h => ?_⟩
  have h2 : (wS tx len p).2 = _ := wdP_len _ p h
  rw [h2, List.length_append]
  have h3 : ∀ k : Fin 6, 3 ≤ (chs k.val).length := by decide
  have := h3 ⟨_, Wd_6 (tx := tx) (len := len) p⟩
  have e : ([61] : List Int).length = 1 := rfl
  rw [e]
  have h4 : 3 ≤ (chs (Wd tx len p)).length := this
  omega
theorem mP_b {q : Nat} (h : q ≤ len) : q ≤ (mP tx len q).2 ∧ (mP tx len q).2 ≤ len := by
  unfold mP
  split
  · have := mxF_b (tx := tx) (len := len) (len - q) q noA h (noA_ok q)
    exact ⟨this.1, this.2.1⟩
  · exact ⟨Nat.le_refl _, h⟩
theorem oP_b {p : Nat} (hp : p ≤ len) : p ≤ (oP tx len p).2 ∧ (oP tx len p).2 ≤ len ∧ ((oP tx len p).1 = true → p + 4 ≤ (oP tx len p).2) := by
  obtain ⟨w1, w2, w3⟩ := wS_b (tx := tx) hp
  have key : (wS tx len p).2 ≤ (oP tx len p).2 ∧ (oP tx len p).2 ≤ len ∧ ((oP tx len p).1 = true → (wS tx len p).1 = true) := by
    unfold oP
    by_cases h : (wS tx len p).1 = true
    · rw [if_pos h]
      have n1 := nP_le (tx := tx) w2
      split
      · have := mP_b (tx := tx) w2
        exact ⟨this.1, this.2, fun _ => h⟩
      · split
        · unfold sgP
          split
          · rename_i c
            have c1 := c.2.1
            exact ⟨Nat.le_succ _, c1, fun _ => h⟩
          · exact ⟨Nat.le_refl _, w2, fun _ => h⟩
        · split
          · split
            · split
              · rename_i c
                have c1 := c.1
                have n2 := nP_le (tx := tx) (len := len) (q := (nP tx len (wS tx len p).2).2 + 1) (by omega)
                exact ⟨by omega, n2.2, fun _ => h⟩
              · exact ⟨n1.1, n1.2, fun _ => h⟩
            · exact ⟨n1.1, n1.2, fun _ => h⟩
          · exact ⟨n1.1, n1.2, fun _ => h⟩
    · rw [if_neg h]
      exact ⟨Nat.le_refl _, w2, fun z => Bool.noConfusion z⟩
  exact ⟨by omega, key.2.1, fun h => by have := w3 (key.2.2 h); omega⟩
/-- reading all orders: whether, and where the fault is -/
def gP (tx : Nat → Int) (len : Nat) : Nat → Nat → Bool × Nat
  | 0, p => (true, p)
  | f + 1, p => if (oP tx len p).1 = true then (if len ≤ (oP tx len p).2 then (true, (oP tx len p).2) else if nxt tx len 59 59 (oP tx len p).2 then gP tx len f ((oP tx len p).2 + 1) else (false, (oP tx len p).2)) else (false, (oP tx len p).2)
end TXT10
