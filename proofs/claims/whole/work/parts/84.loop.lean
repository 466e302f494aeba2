/-! the law's loop -/
section LAWL
variable {p : Program} {l : Launch} {e : Env} {s : State} {m : MethodId} {args : Array Value} {below : List Frame} {meth : Method} {c : Code} {Q : State → Prop} {D : va_G} {ca : Nat → ClassId} {A : Nat → Prop} {cells slots : Nat} {ls : Array Slot} {aX aM : Nat → Nat} {ν μ : Mem} {b L i : Nat} {xs : Nat → Int32} {t : Int}
theorem law_body (X : LE D ca aX aM p s m args c A b L xs cells slots) (hN : RM ν) (hM : RM μ) (h0 : 0 ≤ t) (ht : t ≤ 900000000) (M : MI μ t) (I : XI ν μ) (hi : i + 3 < L) (hl : lv_has ls 8 [(3, .int (Int32.ofInt i)), (2, .ref (aM 0)), (1, .ref (aX 0)), (0, .ref b)]) (kend : ∀ (ν' μ' : Mem) (ls' : Array Slot), RM ν' → RM μ' → MI μ' (t + 1500000) → XI ν' μ' → lv_has ls' 8 [(3, .int (Int32.ofInt i)), (2, .ref (aM 0)), (1, .ref (aX 0)), (0, .ref b)] → LJ p l e s m args below meth c Q D ca A aX aM ν' μ' cells slots 904 ls' []) : LJ p l e s m args below meth c Q D ca A aX aM ν μ cells slots 26 ls [] := by
  intro H locs hP hP2 hS
  have hx := X.1.1
  have hb := X.1.2.1
  obtain ⟨hX, hbl, hbA, hL⟩ := X.2.2.2.2.2.2.1
  have hr : inR (i : Int) := by unfold inR; omega
  refine lv_aload_n hx hb dL_law_26 rfl (lv_at hl 3 rfl) ?_
  refine lv_iload_n hx hb dL_law_27 rfl (lv_at hl 0 rfl) ?_
  refine va_sld hx hb hX hbl hbA hS (vin_of hr (by omega) (by omega)) dL_law_28 ?_
  refine lv_bipush (v := 31) hx hb dL_law_29 (by decide) ?_
  refine lv_iand hx hb dL_law_31 ?_
  generalize xs (Int32.ofInt (i : Int)).toNatClampNeg &&& 31 = z
  by_cases ho : z.toInt < 0 ∨ 29 < z.toInt
  · refine lv_tableOut (tgt := 904) hx hb dL_law_32 ho (by decide) ?_
    exact kend ν μ ls hN hM (MI_mono M (by omega)) I hl H locs hP hP2 hS
  · rcases (show z.toInt = 0 ∨ z.toInt = 1 ∨ z.toInt = 2 ∨ z.toInt = 3 ∨ z.toInt = 4 ∨ z.toInt = 5 ∨ z.toInt = 6 ∨ z.toInt = 7 ∨ z.toInt = 8 ∨ z.toInt = 9 ∨ z.toInt = 10 ∨ z.toInt = 11 ∨ z.toInt = 12 ∨ z.toInt = 13 ∨ z.toInt = 14 ∨ z.toInt = 15 ∨ z.toInt = 16 ∨ z.toInt = 17 ∨ z.toInt = 18 ∨ z.toInt = 19 ∨ z.toInt = 20 ∨ z.toInt = 21 ∨ z.toInt = 22 ∨ z.toInt = 23 ∨ z.toInt = 24 ∨ z.toInt = 25 ∨ z.toInt = 26 ∨ z.toInt = 27 ∨ z.toInt = 28 ∨ z.toInt = 29 by omega) with hz | hz | hz | hz | hz | hz | hz | hz | hz | hz | hz | hz | hz | hz | hz | hz | hz | hz | hz | hz | hz | hz | hz | hz | hz | hz | hz | hz | hz | hz
    · exact lv_tableIn (tgt := 168) (off := 136) hx hb dL_law_32 (by rw [hz]; decide) (by rw [hz]; decide) (by rw [hz]; rfl) (by decide) (law_0 X hN hM h0 ht M I hi hl kend H locs hP hP2 hS)
    · exact lv_tableIn (tgt := 191) (off := 159) hx hb dL_law_32 (by rw [hz]; decide) (by rw [hz]; decide) (by rw [hz]; rfl) (by decide) (law_1 X hN hM h0 ht M I hi hl kend H locs hP hP2 hS)
    · exact lv_tableIn (tgt := 224) (off := 192) hx hb dL_law_32 (by rw [hz]; decide) (by rw [hz]; decide) (by rw [hz]; rfl) (by decide) (law_2 X hN hM h0 ht M I hi hl kend H locs hP hP2 hS)
    · exact lv_tableIn (tgt := 247) (off := 215) hx hb dL_law_32 (by rw [hz]; decide) (by rw [hz]; decide) (by rw [hz]; rfl) (by decide) (law_3 X hN hM h0 ht M I hi hl kend H locs hP hP2 hS)
    · exact lv_tableIn (tgt := 270) (off := 238) hx hb dL_law_32 (by rw [hz]; decide) (by rw [hz]; decide) (by rw [hz]; rfl) (by decide) (law_4 X hN hM h0 ht M I hi hl kend H locs hP hP2 hS)
    · exact lv_tableIn (tgt := 293) (off := 261) hx hb dL_law_32 (by rw [hz]; decide) (by rw [hz]; decide) (by rw [hz]; rfl) (by decide) (law_5 X hN hM h0 ht M I hi hl kend H locs hP hP2 hS)
    · exact lv_tableIn (tgt := 316) (off := 284) hx hb dL_law_32 (by rw [hz]; decide) (by rw [hz]; decide) (by rw [hz]; rfl) (by decide) (law_6 X hN hM h0 ht M I hi hl kend H locs hP hP2 hS)
    · exact lv_tableIn (tgt := 349) (off := 317) hx hb dL_law_32 (by rw [hz]; decide) (by rw [hz]; decide) (by rw [hz]; rfl) (by decide) (law_7 X hN hM h0 ht M I hi hl kend H locs hP hP2 hS)
    · exact lv_tableIn (tgt := 372) (off := 340) hx hb dL_law_32 (by rw [hz]; decide) (by rw [hz]; decide) (by rw [hz]; rfl) (by decide) (law_8 X hN hM h0 ht M I hi hl kend H locs hP hP2 hS)
    · exact lv_tableIn (tgt := 385) (off := 353) hx hb dL_law_32 (by rw [hz]; decide) (by rw [hz]; decide) (by rw [hz]; rfl) (by decide) (law_9 X hN hM h0 ht M I hi hl kend H locs hP hP2 hS)
    · exact lv_tableIn (tgt := 410) (off := 378) hx hb dL_law_32 (by rw [hz]; decide) (by rw [hz]; decide) (by rw [hz]; rfl) (by decide) (law_10 X hN hM h0 ht M I hi hl kend H locs hP hP2 hS)
    · exact lv_tableIn (tgt := 423) (off := 391) hx hb dL_law_32 (by rw [hz]; decide) (by rw [hz]; decide) (by rw [hz]; rfl) (by decide) (law_11 X hN hM h0 ht M I hi hl kend H locs hP hP2 hS)
    · exact lv_tableIn (tgt := 436) (off := 404) hx hb dL_law_32 (by rw [hz]; decide) (by rw [hz]; decide) (by rw [hz]; rfl) (by decide) (law_12 X hN hM h0 ht M I hi hl kend H locs hP hP2 hS)
    · exact lv_tableIn (tgt := 449) (off := 417) hx hb dL_law_32 (by rw [hz]; decide) (by rw [hz]; decide) (by rw [hz]; rfl) (by decide) (law_13 X hN hM h0 ht M I hi hl kend H locs hP hP2 hS)
    · exact lv_tableIn (tgt := 462) (off := 430) hx hb dL_law_32 (by rw [hz]; decide) (by rw [hz]; decide) (by rw [hz]; rfl) (by decide) (law_14 X hN hM h0 ht M I hi hl kend H locs hP hP2 hS)
    · exact lv_tableIn (tgt := 475) (off := 443) hx hb dL_law_32 (by rw [hz]; decide) (by rw [hz]; decide) (by rw [hz]; rfl) (by decide) (law_15 X hN hM h0 ht M I hi hl kend H locs hP hP2 hS)
    · exact lv_tableIn (tgt := 488) (off := 456) hx hb dL_law_32 (by rw [hz]; decide) (by rw [hz]; decide) (by rw [hz]; rfl) (by decide) (law_16 X hN hM h0 ht M I hi hl kend H locs hP hP2 hS)
    · exact lv_tableIn (tgt := 521) (off := 489) hx hb dL_law_32 (by rw [hz]; decide) (by rw [hz]; decide) (by rw [hz]; rfl) (by decide) (law_17 X hN hM h0 ht M I hi hl kend H locs hP hP2 hS)
    · exact lv_tableIn (tgt := 544) (off := 512) hx hb dL_law_32 (by rw [hz]; decide) (by rw [hz]; decide) (by rw [hz]; rfl) (by decide) (law_18 X hN hM h0 ht M I hi hl kend H locs hP hP2 hS)
    · exact lv_tableIn (tgt := 567) (off := 535) hx hb dL_law_32 (by rw [hz]; decide) (by rw [hz]; decide) (by rw [hz]; rfl) (by decide) (law_19 X hN hM h0 ht M I hi hl kend H locs hP hP2 hS)
    · exact lv_tableIn (tgt := 600) (off := 568) hx hb dL_law_32 (by rw [hz]; decide) (by rw [hz]; decide) (by rw [hz]; rfl) (by decide) (law_20 X hN hM h0 ht M I hi hl kend H locs hP hP2 hS)
    · exact lv_tableIn (tgt := 633) (off := 601) hx hb dL_law_32 (by rw [hz]; decide) (by rw [hz]; decide) (by rw [hz]; rfl) (by decide) (law_21 X hN hM h0 ht M I hi hl kend H locs hP hP2 hS)
    · exact lv_tableIn (tgt := 692) (off := 660) hx hb dL_law_32 (by rw [hz]; decide) (by rw [hz]; decide) (by rw [hz]; rfl) (by decide) (law_22 X hN hM h0 ht M I hi hl kend H locs hP hP2 hS)
    · exact lv_tableIn (tgt := 725) (off := 693) hx hb dL_law_32 (by rw [hz]; decide) (by rw [hz]; decide) (by rw [hz]; rfl) (by decide) (law_23 X hN hM h0 ht M I hi hl kend H locs hP hP2 hS)
    · exact lv_tableIn (tgt := 748) (off := 716) hx hb dL_law_32 (by rw [hz]; decide) (by rw [hz]; decide) (by rw [hz]; rfl) (by decide) (law_24 X hN hM h0 ht M I hi hl kend H locs hP hP2 hS)
    · exact lv_tableIn (tgt := 771) (off := 739) hx hb dL_law_32 (by rw [hz]; decide) (by rw [hz]; decide) (by rw [hz]; rfl) (by decide) (law_25 X hN hM h0 ht M I hi hl kend H locs hP hP2 hS)
    · exact lv_tableIn (tgt := 812) (off := 780) hx hb dL_law_32 (by rw [hz]; decide) (by rw [hz]; decide) (by rw [hz]; rfl) (by decide) (law_26 X hN hM h0 ht M I hi hl kend H locs hP hP2 hS)
    · exact lv_tableIn (tgt := 845) (off := 813) hx hb dL_law_32 (by rw [hz]; decide) (by rw [hz]; decide) (by rw [hz]; rfl) (by decide) (law_27 X hN hM h0 ht M I hi hl kend H locs hP hP2 hS)
    · exact lv_tableIn (tgt := 858) (off := 826) hx hb dL_law_32 (by rw [hz]; decide) (by rw [hz]; decide) (by rw [hz]; rfl) (by decide) (law_28 X hN hM h0 ht M I hi hl kend H locs hP hP2 hS)
    · exact lv_tableIn (tgt := 871) (off := 839) hx hb dL_law_32 (by rw [hz]; decide) (by rw [hz]; decide) (by rw [hz]; rfl) (by decide) (law_29 X hN hM h0 ht M I hi hl kend H locs hP hP2 hS)
theorem ofN_ofI (n : Nat) : Int32.ofNat n = Int32.ofInt (n : Int) := by
  apply Int32.toInt_inj.mp
  rw [oi_to, w32_bmod]
  show (BitVec.ofNat 32 n).toInt = _
  first | rw [BitVec.toInt_ofNat'] | exact Int32.toInt_ofNat' | simp
theorem law_loop (X : LE D ca aX aM p s m args c A b L xs cells slots) (kend : ∀ (ν' μ' : Mem) (ls' : Array Slot), LJ p l e s m args below meth c Q D ca A aX aM ν' μ' cells slots 910 ls' []) (k : Nat) : ∀ (i : Nat) (ν μ : Mem) (t : Int) (ls : Array Slot), L + 4 ≤ i + 4 * k → i ≤ L + 4 → RM ν → RM μ → t = 375000 * (i : Int) → MI μ t → XI ν μ → lv_has ls 8 [(3, .int (Int32.ofInt i)), (2, .ref (aM 0)), (1, .ref (aX 0)), (0, .ref b)] → LJ p l e s m args below meth c Q D ca A aX aM ν μ cells slots 18 ls [] := by
  obtain ⟨hX, hbl, hbA, hL⟩ := X.2.2.2.2.2.2.1
  have hx := X.1.1
  have hb := X.1.2.1
  have hlen : inR ((L : Int) - 4) := by unfold inR; omega
  have hsub : Int32.ofInt (L : Int) - 4 = Int32.ofInt ((L : Int) - 4) := by rw [Int32.ofInt_sub]; rfl
  induction k with
  | zero =>
    intro i ν μ t ls hik hiL hN hM ht M I hl H locs hP hP2 hS
    have hr : inR (i : Int) := by unfold inR; omega
    refine lv_iload_n hx hb dL_law_18 rfl (lv_at hl 0 rfl) ?_
    refine lv_aload_n hx hb dL_law_19 rfl (lv_at hl 3 rfl) ?_
    refine va_slen hx hb hX hbl hbA hS dL_law_20 ?_
    refine lv_iconst (v := 4) hx hb dL_law_21 (by decide) ?_
    refine lv_isub hx hb dL_law_22 ?_
    rw [ofN_ofI, hsub]
    refine lv_icmp_gt (tgt := 910) hx hb dL_law_23 (by decide) (fun _ => kend ν μ ls H locs hP hP2 hS) (fun z => absurd ((oi_lt hlen hr).mpr (by omega)) z)
  | succ k ih =>
    intro i ν μ t ls hik hiL hN hM ht M I hl H locs hP hP2 hS
    have hr : inR (i : Int) := by unfold inR; omega
    refine lv_iload_n hx hb dL_law_18 rfl (lv_at hl 0 rfl) ?_
    refine lv_aload_n hx hb dL_law_19 rfl (lv_at hl 3 rfl) ?_
    refine va_slen hx hb hX hbl hbA hS dL_law_20 ?_
    refine lv_iconst (v := 4) hx hb dL_law_21 (by decide) ?_
    refine lv_isub hx hb dL_law_22 ?_
    rw [ofN_ofI, hsub]
    refine lv_icmp_gt (tgt := 910) hx hb dL_law_23 (by decide) (fun _ => kend ν μ ls H locs hP hP2 hS) (fun z => ?_)
    have hle : ¬ ((L : Int) - 4 < (i : Int)) := fun y => z ((oi_lt hlen hr).mpr y)
    refine law_body (t := t) X hN hM (by omega) (by omega) M I (by omega) hl (fun ν' μ' ls' hN' hM' M' I' hl' => ?_) H locs hP hP2 hS
    intro H locs hP hP2 hS
    refine lv_iinc (k := 0) (v := Int32.ofInt ((i + 4 : Nat) : Int)) (lv' := [(3, .int (Int32.ofInt ((i + 4 : Nat) : Int))), (2, .ref (aM 0)), (1, .ref (aX 0)), (0, .ref b)]) hx hb dL_law_904 hl' rfl (by rw [← Int32.ofInt_add]; rfl) (by decide) rfl (fun ls2 hl2 => ?_)
    refine lv_goto (tgt := 18) hx hb dL_law_907 (by decide) ?_
    exact ih (i + 4) ν' μ' (t + 1500000) ls2 (by omega) (by omega) hN' hM' (by omega) M' I' hl2 H locs hP hP2 hS
end LAWL
