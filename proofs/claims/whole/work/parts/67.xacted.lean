/-! one order acted, in the class: the same row, an answer of the same kind -/
section TXT13
variable {tx : Nat → Int} {len : Nat}
/-- the class's answer to an order of a text -/
noncomputable def xAns (tx : Nat → Int) (len p : Nat) (a : Nat → Int) : Int :=
  if Wd tx len p = 1 then (if a 34 = 8 then -3 else a 34 + 1) else
  if Wd tx len p = 3 then (if 0 ≤ tx (wS tx len p).2 - 48 ∧ tx (wS tx len p).2 - 48 < a 34 then a 34 - 1 else -1) else
  (sOrd tx len p a).1
theorem xAns_s {a : Nat → Int} {t : Int} {p : Nat} (w : Wf a t) : (0 ≤ xAns tx len p a ↔ 0 ≤ (sOrd tx len p a).1) ∧ (xAns tx len p a < 0 → xAns tx len p a = (sOrd tx len p a).1) := by
  have h34 := w.2.2.2.2.1
  unfold xAns
  by_cases c1 : Wd tx len p = 1
  · have hs : sOrd tx len p a = sRule a (mS (mV tx len (wS tx len p).2) 8) := by rw [sOrd, if_neg (by omega), if_pos c1]
    rw [if_pos c1, hs, sRule]
    by_cases d : a 34 = 8
    · rw [if_pos d, if_pos d]; exact ⟨Iff.rfl, fun _ => rfl⟩
    · rw [if_neg d, if_neg d]; exact ⟨⟨fun _ => Int.le_refl 0, fun _ => by omega⟩, fun h => by omega⟩
  · rw [if_neg c1]
    by_cases c3 : Wd tx len p = 3
    · have hs : sOrd tx len p a = sDrop a (tx (wS tx len p).2 - 48) := by rw [sOrd, if_neg (by omega), if_neg (by omega), if_neg (by omega), if_pos c3]
      rw [if_pos c3, hs, sDrop]
      by_cases d : 0 ≤ tx (wS tx len p).2 - 48 ∧ tx (wS tx len p).2 - 48 < a 34
      · rw [if_pos d, if_pos d]; exact ⟨⟨fun _ => Int.le_refl 0, fun _ => by omega⟩, fun h => by omega⟩
      · rw [if_neg d, if_neg d]; exact ⟨Iff.rfl, fun _ => rfl⟩
    · rw [if_neg c3]; exact ⟨Iff.rfl, fun _ => rfl⟩
theorem xact_eq {ν : Mem} {a : Nat → Int} {t : Int} {p : Nat} (S : SRel a ν 10) (J : TI ν) (w : Wf a t) (h0 : 0 ≤ t) (ht : t ≤ 1000000000) (hl : len ≤ 60) (hp : p ≤ len) (H : hO tx len p ν) : ∃ ν', xa_perform ν = some (xAns tx len p a, ν') ∧ SRel (sOrd tx len p a).2 ν' 10 ∧ fr ν ν' := by
  have hq : (wS tx len p).2 ≤ len := wdP_le _ _ hp
  have h6 := Wd_6 (tx := tx) (len := len) p
  have hJ : JT ν := by obtain ⟨r, k, L⟩ := J; exact L.1
  have hA : okA (mV tx len (wS tx len p).2) len := by
    rcases mV_ok (tx := tx) hq with h | h
    · have := mP_b (tx := tx) hq
      exact ⟨h.1, by have := h.2; omega⟩
    · exact h
  have hu := uS_1 hA.1 8 (Nat.le_refl _)
  have hs := pS_u hA.1 w.1 8 (Nat.le_refl _)
  have h2 := hA.2
  obtain ⟨k3, k2, k5, k56, k55⟩ := H
  rw [xa_perform, k3]
  rcases (show Wd tx len p = 0 ∨ Wd tx len p = 1 ∨ Wd tx len p = 2 ∨ Wd tx len p = 3 ∨ Wd tx len p = 4 ∨ Wd tx len p = 5 by omega) with c | c | c | c | c | c
  · have hr : sOrd tx len p a = sComes a (mS (mV tx len (wS tx len p).2) 8) (uS (mV tx len (wS tx len p).2) 8) (pS a (mV tx len (wS tx len p).2) 8) := by rw [sOrd, if_pos c]
    obtain ⟨ν', e, r, f⟩ := xbringU_eq (k2 (by omega)) (fun j hj => ⟨hA.1 j hj, by have := hu.2 j hj; omega⟩) (by omega) (by omega) S w h0 ht
    have ha : xAns tx len p a = (sOrd tx len p a).1 := by rw [xAns, if_neg (show ¬ Wd tx len p = 1 by omega), if_neg (show ¬ Wd tx len p = 3 by omega)]
    rw [ha, hr, c, if_pos (show ((0 : Nat) : Int) = 0 by decide), e, sb]
    exact ⟨ν', rfl, r, f⟩
  · have hr : sOrd tx len p a = sRule a (mS (mV tx len (wS tx len p).2) 8) := by rw [sOrd, if_neg (by omega), if_pos c]
    obtain ⟨ν', e, r, f⟩ := xbland_eq S w (mS_M (mV tx len (wS tx len p).2))
    have ha : xAns tx len p a = if a 34 = 8 then -3 else a 34 + 1 := by rw [xAns, if_pos c]
    rw [ha, hr, c, if_neg (show ¬ ((1 : Nat) : Int) = 0 by decide), if_pos (show ((1 : Nat) : Int) = 1 by decide), xmr_eq (k2 (by omega)) hA.1, sb, e, sb]
    exact ⟨ν', rfl, r, f⟩
  · have hr : sOrd tx len p a = sWant a (mS (mV tx len (wS tx len p).2) 8) := by rw [sOrd, if_neg (by omega), if_neg (by omega), if_pos c]
    obtain ⟨ν', e, r, f⟩ := xwelcome_eq S w (mS_M (mV tx len (wS tx len p).2))
    have ha : xAns tx len p a = (sOrd tx len p a).1 := by rw [xAns, if_neg (show ¬ Wd tx len p = 1 by omega), if_neg (show ¬ Wd tx len p = 3 by omega)]
    rw [ha, hr, c, if_neg (show ¬ ((2 : Nat) : Int) = 0 by decide), if_neg (show ¬ ((2 : Nat) : Int) = 1 by decide), if_pos (show ((2 : Nat) : Int) = 2 by decide), xmr_eq (k2 (by omega)) hA.1, sb, e, sb]
    exact ⟨ν', rfl, r, f⟩
  · have hr : sOrd tx len p a = sDrop a (tx (wS tx len p).2 - 48) := by rw [sOrd, if_neg (by omega), if_neg (by omega), if_neg (by omega), if_pos c]
    obtain ⟨ν', e, r, f⟩ := xdrop_eq (x := tx (wS tx len p).2 - 48) S w
    have ha : xAns tx len p a = if 0 ≤ tx (wS tx len p).2 - 48 ∧ tx (wS tx len p).2 - 48 < a 34 then a 34 - 1 else -1 := by rw [xAns, if_neg (show ¬ Wd tx len p = 1 by omega), if_pos c]
    rw [ha, hr, c, if_neg (show ¬ ((3 : Nat) : Int) = 0 by decide), if_neg (show ¬ ((3 : Nat) : Int) = 1 by decide), if_neg (show ¬ ((3 : Nat) : Int) = 2 by decide), if_pos (show ((3 : Nat) : Int) = 3 by decide), k5 c, e, sb]
    exact ⟨ν', rfl, r, f⟩
  · have hr : sOrd tx len p a = sPours a (nV tx len (wS tx len p).2) (nV tx len ((nP tx len (wS tx len p).2).2 + 1)) := by rw [sOrd, if_neg (by omega), if_neg (by omega), if_neg (by omega), if_neg (by omega), if_pos c]
    obtain ⟨ν', e, r, f⟩ := xpour_eq (x := nV tx len (wS tx len p).2) (y := nV tx len ((nP tx len (wS tx len p).2).2 + 1)) hJ S w ht
    have ha : xAns tx len p a = (sOrd tx len p a).1 := by rw [xAns, if_neg (show ¬ Wd tx len p = 1 by omega), if_neg (show ¬ Wd tx len p = 3 by omega)]
    rw [ha, hr, c, if_neg (show ¬ ((4 : Nat) : Int) = 0 by decide), if_neg (show ¬ ((4 : Nat) : Int) = 1 by decide), if_neg (show ¬ ((4 : Nat) : Int) = 2 by decide), if_neg (show ¬ ((4 : Nat) : Int) = 3 by decide), if_pos (show ((4 : Nat) : Int) = 4 by decide), (k56 c).1, (k56 c).2, e, sb]
    exact ⟨ν', rfl, r, f⟩
  · have hr : sOrd tx len p a = sMore a (nV tx len (wS tx len p).2) := by rw [sOrd, if_neg (by omega), if_neg (by omega), if_neg (by omega), if_neg (by omega), if_neg (by omega)]
    obtain ⟨ν', e, r, f⟩ := xbuy_eq (x := nV tx len (wS tx len p).2) hJ S w h0 ht
    have ha : xAns tx len p a = (sOrd tx len p a).1 := by rw [xAns, if_neg (show ¬ Wd tx len p = 1 by omega), if_neg (show ¬ Wd tx len p = 3 by omega)]
    rw [ha, hr, c, if_neg (show ¬ ((5 : Nat) : Int) = 0 by decide), if_neg (show ¬ ((5 : Nat) : Int) = 1 by decide), if_neg (show ¬ ((5 : Nat) : Int) = 2 by decide), if_neg (show ¬ ((5 : Nat) : Int) = 3 by decide), if_neg (show ¬ ((5 : Nat) : Int) = 4 by decide), if_pos (show ((5 : Nat) : Int) = 5 by decide), k55 c, e, sb]
    exact ⟨ν', rfl, r, f⟩
end TXT13
