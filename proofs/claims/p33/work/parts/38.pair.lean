/-! an order, in both -/
theorem pl_of {σ : Mem} {a : Nat → Int} (h : σ 1 = a) : pl σ a = σ := by rw [← h, pl_self]
theorem sComes_s {a : Nat → Int} {m u p : Int} (h : 0 ≤ a 33) : (sComes a m u p).1 < 0 → (sComes a m u p).2 = a := by
  rw [sComes]
  split
  · intro; rfl
  · intro h2; exact absurd h2 (by dsimp only; omega)
theorem end_neg {v : Int} {ν : Mem} (h : v < 0) : xx_ended v ν = some (v, ν) := by rw [xx_ended, if_pos h, xx_ended_11]
theorem un_madd (k : Nat) : ∀ a b : Int, unk k (madd k a b) ≤ unk k a + unk k b := by
  induction k with
  | zero => intro a b; simp [unk]
  | succ k ih =>
    intro a b
    have := ih (a / 3) (b / 3)
    rw [unk, madd_mod, madd_div, unk, unk]
    omega
theorem un_mx (a b : Int) : un (mx a b) ≤ un a + un b := by rw [un_def, un_def, un_def, mx_def]; exact un_madd 8 a b
theorem sPours_s {a : Nat → Int} {x y : Int} (h8 : 0 ≤ a 8) : ((sPours a x y).1 < 0 → (sPours a x y).2 = a) := by
  rw [sPours]
  split
  · intro; rfl
  · split
    · intro; rfl
    · split
      · intro; rfl
      · intro h; exfalso
        have u1 := un_b (mixA a (fnd a x))
        have := un_mx (mixA a (fnd a x)) (mixA a (fnd a y))
        dsimp only at h
        omega
theorem sMore_s {a : Nat → Int} {x : Int} : (sMore a x).1 < 0 → (sMore a x).2 = a := by
  rw [sMore]
  split
  · intro; rfl
  · split
    · intro; rfl
    · intro h; exfalso
      have := (mx_isM (mixA a (fnd a x)) (mixA a (fnd a x))).1
      dsimp only at h
      omega
theorem sWant_s {a : Nat → Int} {x : Int} (h : 0 ≤ a 43) : (sWant a x).1 < 0 → (sWant a x).2 = a := by
  rw [sWant]
  split
  · intro; rfl
  · intro h; exact absurd h (by dsimp only; omega)
theorem Wf_sPours {a : Nat → Int} {t x y : Int} (w : Wf a t) (h0 : 0 ≤ t) : Wf (sPours a x y).2 (t + 1000) := by
  have h8 := w.2.1
  have b1 := fnd_b (a := a) x h8.1
  have b2 := fnd_b (a := a) y h8.1
  have t53 := ab w 53 (by omega) (by omega)
  have u1 := un_b (mixA a (fnd a x))
  have u2 := un_b (mixA a (fnd a y))
  have u3 := un_b (mx (mixA a (fnd a x)) (mixA a (fnd a y)))
  rw [sPours]
  split
  · exact Wf_mono w (by omega)
  · split
    · exact Wf_mono w (by omega)
    · split
      · exact Wf_mono w (by omega)
      · exact Wf_acu (Wf_mix (Wf_mix w (k := (fnd a x).toNat) (by omega) (v := 0) (by decide)) (k := (fnd a y).toNat) (by omega) (mx_isM _ _)) (by omega) (by omega) (by omega)
theorem Wf_sMore {a : Nat → Int} {t x : Int} (w : Wf a t) (h0 : 0 ≤ t) : Wf (sMore a x).2 (t + 5000) := by
  have h8 := w.2.1
  have b1 := fnd_b (a := a) x h8.1
  have t52 := ab w 52 (by omega) (by omega)
  have t53 := ab w 53 (by omega) (by omega)
  have t56 := ab w 56 (by omega) (by omega)
  have p1 := prc_b w.1 (mixA a (fnd a x))
  have u1 := un_b (mixA a (fnd a x))
  have u3 := un_b (mx (mixA a (fnd a x)) (mixA a (fnd a x)))
  rw [sMore]
  split
  · exact Wf_mono w (by omega)
  · split
    · exact Wf_mono w (by omega)
    · exact Wf_acu (Wf_acu (Wf_acu (Wf_mix w (k := (fnd a x).toNat) (by omega) (mx_isM _ _)) (u := t + 100) (by omega) (by omega) (by omega)) (u := t + 4000) (by omega) (by omega) (by omega)) (by omega) (by omega) (by omega)
theorem Wf_sWant {a : Nat → Int} {t m : Int} (w : Wf a t) (hm : isM m) : Wf (sWant a m).2 t := by
  have h43 := w.2.2.2.2.2.2.1
  rw [sWant]
  split
  · exact w
  · have v1 := Wf_wan w (k := (a 43).toNat) (by omega) hm
    have e43 : up a (44 + (a 43).toNat) m 43 = a 43 := up_ne (by omega)
    have := Wf_c43 v1 (by omega) (by rw [e43, up_same]; exact hm)
    rw [e43] at this
    exact this
theorem Wf_sRule {a : Nat → Int} {t m : Int} (w : Wf a t) (hm : isM m) : Wf (sRule a m).2 t := by
  have h34 := w.2.2.2.2.1
  rw [sRule]
  split
  · exact w
  · have v1 := Wf_rul w (k := (a 34).toNat) (by omega) hm
    have e34 : up a (35 + (a 34).toNat) m 34 = a 34 := up_ne (by omega)
    have := Wf_c34 v1 (by omega) (by rw [e34, up_same]; exact hm)
    rw [e34] at this
    exact this
theorem Wf_sDrop {a : Nat → Int} {t x : Int} (w : Wf a t) : Wf (sDrop a x).2 t := by
  rw [sDrop]
  split
  · exact Wf_drr w (by assumption)
  · exact w
theorem Wf_sPrice {a : Nat → Int} {t x v : Int} (w : Wf a t) : Wf (sPrice a x v).2 t := by
  rw [sPrice]
  split
  · exact w
  · split
    · exact w
    · split
      · exact w
      · exact Wf_price w (by omega) (by omega)
theorem Wf_sThrow {a : Nat → Int} {t x : Int} (w : Wf a t) (h0 : 0 ≤ t) : Wf (sThrow a x).2 (t + 100) := by
  have h8 := w.2.1
  have b1 := fnd_b (a := a) x h8.1
  have t55 := ab w 55 (by omega) (by omega)
  have u1 := un_b (mixA a (fnd a x))
  rw [sThrow]
  split
  · exact Wf_mono w (by omega)
  · exact Wf_drp (Wf_acu w (by omega) (by omega) (by omega)) (by rw [up_ne (by omega)]; omega)
theorem Wf_sSell {a : Nat → Int} {t k : Int} (w : Wf a t) (h0 : 0 ≤ t) (hk : 0 ≤ k ∧ k < a 8) : Wf (sSell a k).2 (t + 10000) := by
  have t54 := ab w 54 (by omega) (by omega)
  have t57 := ab w 57 (by omega) (by omega)
  have t58 := ab w 58 (by omega) (by omega)
  have u1 := un_b (mixA a k)
  have p1 := prc_b w.1 (mixA a k)
  rw [sSell]
  exact Wf_drp (Wf_acu (Wf_acu (Wf_acu w (u := t + 100) (by omega) (by omega) (by omega)) (u := t + 5000) (by omega) (by omega) (by omega)) (by omega) (by omega) (by omega)) (by rw [up_ne (by omega), up_ne (by omega), up_ne (by omega)]; omega)