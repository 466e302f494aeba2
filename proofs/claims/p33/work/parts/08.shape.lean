/-! the two worlds: the reference's (its object at 0), the class's (its object at 0) -/
def shopD (b : Nat) : List Descr := [.inl (4, [some (b + 1), some (b + 2), none, none, some (b + 3), none, some (b + 4), some (b + 5), none, some (b + 6)]),
  .inr (.inl (0, 12)), .inr (.inl (0, 12)), .inr (.inl (0, 8)), .inr (.inl (0, 8)), .inr (.inl (0, 8)), .inr (.inl (0, 8))]
def shX : List Descr := [.inl (7, [some 1, some 3, some 10, some 17, none, some 24, some 61, some 63, some 66]),
  .inl (3, [some 2]), .inr (.inl (1, 6561)),
  .inl (5, [some 1, some 4, none, none, some 5, some 6, some 7, some 8, some 9]), .inr (.inl (0, 8)), .inr (.inl (0, 8)), .inr (.inl (0, 8)), .inr (.inl (0, 8)), .inr (.inl (0, 81)), .inr (.inl (0, 81))] ++
  shopD 10 ++ shopD 17 ++ [.inl (2, [some 25, none, none]), .inr (.inr [26, 33, 40, 47, 54])] ++ shopD 26 ++ shopD 33 ++ shopD 40 ++ shopD 47 ++ shopD 54 ++
  [.inl (0, [some 10, some 1, some 3, some 62]), .inr (.inl (0, 8)),
  .inl (6, [some 64, none, none, none, some 65, none, none]), .inr (.inl (3, 60)), .inr (.inl (0, 8)),
  .inl (1, [some 1, some 67, none, some 68]), .inr (.inl (2, 4096)), .inr (.inl (0, 206))]
theorem u_good {C : String} {T : u_T} {N : Nat} (h : ∀ w ∈ u_ws C T N, w ∈ lw_tbl) : ∀ w ∈ u_ws C T N, w ∈ WS := fun w hw => by
  refine List.mem_filter.mpr ⟨h w hw, ?_⟩
  unfold u_ws at hw
  obtain ⟨k, -, rfl⟩ := List.mem_map.mp hw
  unfold u_lay
  split <;> rfl
theorem ck0 : CK 0 RX0 TX0 4 tyX0 := ⟨rfl, u_good inX0, tyX0_ok, nmX0⟩
theorem ck1 : CK 1 RX1 TX1 4 tyX1 := ⟨rfl, u_good inX1, tyX1_ok, nmX1⟩
theorem ck2 : CK 2 RX2 TX2 3 tyX2 := ⟨rfl, u_good inX2, tyX2_ok, nmX2⟩
theorem ck3 : CK 3 RX3 TX3 1 tyX3 := ⟨rfl, u_good inX3, tyX3_ok, nmX3⟩
theorem ck4 : CK 4 RX4 TX4 10 tyX4 := ⟨rfl, u_good inX4, tyX4_ok, nmX4⟩
theorem ck5 : CK 5 RX5 TX5 9 tyX5 := ⟨rfl, u_good inX5, tyX5_ok, nmX5⟩
theorem ck6 : CK 6 RX6 TX6 7 tyX6 := ⟨rfl, u_good inX6, tyX6_ok, nmX6⟩
theorem ck7 : CK 7 RX7 TX7 9 tyX7 := ⟨rfl, u_good inX7, tyX7_ok, nmX7⟩
def FU : Nat := 100000
def bnd {α β : Type} (a : α) (f : α → β) : β := f a
def aget (μ : Mem) (k n : Nat) (i : Int) : Option Int := if 0 ≤ i ∧ i < (n : Int) then some (μ k i.toNat) else none
def aput (μ : Mem) (k n : Nat) (i x : Int) : Option Mem := if 0 ≤ i ∧ i < (n : Int) then some (mst μ k i.toNat x) else none
def pget (i : Int) : Option Int := if 0 ≤ i ∧ i < 9 then some (pow3 i.toNat) else none
def chk (b : Bool) : Option Unit := if b = true then some () else none
theorem aget_some {μ : Mem} {k n : Nat} {i v : Int} (h : aget μ k n i = some v) : (0 ≤ i ∧ i < (n : Int)) ∧ μ k i.toNat = v := by
  unfold aget at h
  split at h
  · exact ⟨by assumption, Option.some.inj h⟩
  · cases h
theorem aput_some {μ μ1 : Mem} {k n : Nat} {i x : Int} (h : aput μ k n i x = some μ1) : (0 ≤ i ∧ i < (n : Int)) ∧ mst μ k i.toNat x = μ1 := by
  unfold aput at h
  split at h
  · exact ⟨by assumption, Option.some.inj h⟩
  · cases h
theorem pget_some {i v : Int} (h : pget i = some v) : (0 ≤ i ∧ i < 9) ∧ pow3 i.toNat = v := by
  unfold pget at h
  split at h
  · exact ⟨by assumption, Option.some.inj h⟩
  · cases h
theorem chk_some {b : Bool} {u : Unit} (h : chk b = some u) : b = true := by
  unfold chk at h
  split at h
  · assumption
  · cases h
theorem bd {α β : Type} {x : Option α} {f : α → Option β} {b : β} (h : x.bind f = some b) : ∃ a, x = some a ∧ f a = some b := Option.bind_eq_some_iff.mp h
theorem nar_z {x : Int} (h : x = 0 ∨ x = 1) : narrow .boolean (.int (Int32.ofInt x)) = .int (Int32.ofInt x) := by
  rcases h with rfl | rfl <;> rfl
section GM1
variable {sh : List Descr} {l : Launch} {D : va_G} {ad : Nat → Nat} {ca : Nat → ClassId} {Y : MR} {pc : Nat} {L : List (Option PV)} {st : List PV} {μ μ' : Mem} {r : Option PV}
theorem G.min {index : Nat} {x y : Int} (w1 : Cond.methodLink Y.1.cls index Lib.Math.min.name ∈ WS) (w2 : Cond.static Lib.Math.min.name ∈ WS) (w3 : Cond.initialized "java/lang/Math" ∈ WS) (w4 : Cond.code Lib.Math.min.name Lib.Math.min.code 2 (some .int) ∈ WS) (hfr : 1 ≤ Y.2.2.2.2.1) (hlo : st.length + 13 ≤ Y.2.2.2.2.2) (d : decode Y.2.1 pc = .ok (.invokestatic index, 3))
    (kk : G sh l D ad ca Y (pc + 3) L (.inl (if y < x then y else x) :: st) μ r μ') : G sh l D ad ca Y pc L (.inl y :: .inl x :: st) μ r μ' :=
  fun p e s m args below meth c H ls locs A E hP hD hS hM hL hR => by
    refine va_mmin E.1 E.2.1 (E.2.2.1.trans hL.2.1.1.symm) E.2.2.2.1 (E.2.2.2.2.1 _ w1) (E.2.2.2.2.1 _ w2) (E.2.2.2.2.1 _ w3) (E.2.2.2.2.1 _ w4) hfr (by rw [cat_sum]; exact hlo) (Nat.zero_le _) (Nat.zero_le _) d ?_
    have hy := RS_hd hR
    have hx := RS_hd (RS_tl hR)
    by_cases h : y < x
    · rw [if_pos ((oi_lt hy hx).mpr h)]
      rw [if_pos h] at kk
      exact kk p e s m args below meth c H ls locs A E hP hD hS hM hL (RS_cons hy (RS_tl (RS_tl hR)))
    · rw [if_neg (fun z => h ((oi_lt hy hx).mp z))]
      rw [if_neg h] at kk
      exact kk p e s m args below meth c H ls locs A E hP hD hS hM hL (RS_cons hx (RS_tl (RS_tl hR)))
theorem G.ialdc {k n : Nat} {i : Int} (j : Nat) (hs : sh[k]? = some (.inr (.inl (0, n)))) (hi : i = (j : Int)) (h : j < n) (d : decode Y.2.1 pc = .ok (.iaload, 1))
    (kk : G sh l D ad ca Y (pc + 1) L (.inl (μ k j) :: st) μ r μ') : G sh l D ad ca Y pc L (.inl i :: .inr k :: st) μ r μ' := by
  subst hi
  exact G.iald hs ⟨by omega, by omega⟩ d kk
theorem G.iastc {k n : Nat} {i x : Int} (j : Nat) (hs : sh[k]? = some (.inr (.inl (0, n)))) (hi : i = (j : Int)) (h : j < n) (d : decode Y.2.1 pc = .ok (.iastore, 1))
    (kk : G sh l D ad ca Y (pc + 1) L st (mst μ k j x) r μ') : G sh l D ad ca Y pc L (.inl x :: .inl i :: .inr k :: st) μ r μ' := by
  subst hi
  exact G.iast hs ⟨by omega, by omega⟩ d kk
end GM1
theorem shX_0 : shX[0]? = some (.inl (7, [some 1, some 3, some 10, some 17, none, some 24, some 61, some 63, some 66])) := rfl
theorem shX_1 : shX[1]? = some (.inl (3, [some 2])) := rfl
theorem shX_2 : shX[2]? = some (.inr (.inl (1, 6561))) := rfl
theorem shX_3 : shX[3]? = some (.inl (5, [some 1, some 4, none, none, some 5, some 6, some 7, some 8, some 9])) := rfl
theorem shX_4 : shX[4]? = some (.inr (.inl (0, 8))) := rfl
theorem shX_5 : shX[5]? = some (.inr (.inl (0, 8))) := rfl
theorem shX_6 : shX[6]? = some (.inr (.inl (0, 8))) := rfl
theorem shX_7 : shX[7]? = some (.inr (.inl (0, 8))) := rfl
theorem shX_8 : shX[8]? = some (.inr (.inl (0, 81))) := rfl
theorem shX_9 : shX[9]? = some (.inr (.inl (0, 81))) := rfl
theorem shX_10 : shX[10]? = some (.inl (4, [some 11, some 12, none, none, some 13, none, some 14, some 15, none, some 16])) := rfl
theorem shX_11 : shX[11]? = some (.inr (.inl (0, 12))) := rfl
theorem shX_12 : shX[12]? = some (.inr (.inl (0, 12))) := rfl
theorem shX_13 : shX[13]? = some (.inr (.inl (0, 8))) := rfl
theorem shX_14 : shX[14]? = some (.inr (.inl (0, 8))) := rfl
theorem shX_15 : shX[15]? = some (.inr (.inl (0, 8))) := rfl
theorem shX_16 : shX[16]? = some (.inr (.inl (0, 8))) := rfl
theorem shX_17 : shX[17]? = some (.inl (4, [some 18, some 19, none, none, some 20, none, some 21, some 22, none, some 23])) := rfl
theorem shX_18 : shX[18]? = some (.inr (.inl (0, 12))) := rfl
theorem shX_19 : shX[19]? = some (.inr (.inl (0, 12))) := rfl
theorem shX_20 : shX[20]? = some (.inr (.inl (0, 8))) := rfl
theorem shX_21 : shX[21]? = some (.inr (.inl (0, 8))) := rfl
theorem shX_22 : shX[22]? = some (.inr (.inl (0, 8))) := rfl
theorem shX_23 : shX[23]? = some (.inr (.inl (0, 8))) := rfl
theorem shX_24 : shX[24]? = some (.inl (2, [some 25, none, none])) := rfl
theorem shX_25 : shX[25]? = some (.inr (.inr [26, 33, 40, 47, 54])) := rfl
theorem shX_26 : shX[26]? = some (.inl (4, [some 27, some 28, none, none, some 29, none, some 30, some 31, none, some 32])) := rfl
theorem shX_27 : shX[27]? = some (.inr (.inl (0, 12))) := rfl
theorem shX_28 : shX[28]? = some (.inr (.inl (0, 12))) := rfl
theorem shX_29 : shX[29]? = some (.inr (.inl (0, 8))) := rfl
theorem shX_30 : shX[30]? = some (.inr (.inl (0, 8))) := rfl
theorem shX_31 : shX[31]? = some (.inr (.inl (0, 8))) := rfl
theorem shX_32 : shX[32]? = some (.inr (.inl (0, 8))) := rfl
theorem shX_33 : shX[33]? = some (.inl (4, [some 34, some 35, none, none, some 36, none, some 37, some 38, none, some 39])) := rfl
theorem shX_34 : shX[34]? = some (.inr (.inl (0, 12))) := rfl
theorem shX_35 : shX[35]? = some (.inr (.inl (0, 12))) := rfl
theorem shX_36 : shX[36]? = some (.inr (.inl (0, 8))) := rfl
theorem shX_37 : shX[37]? = some (.inr (.inl (0, 8))) := rfl
theorem shX_38 : shX[38]? = some (.inr (.inl (0, 8))) := rfl
theorem shX_39 : shX[39]? = some (.inr (.inl (0, 8))) := rfl
theorem shX_40 : shX[40]? = some (.inl (4, [some 41, some 42, none, none, some 43, none, some 44, some 45, none, some 46])) := rfl
theorem shX_41 : shX[41]? = some (.inr (.inl (0, 12))) := rfl
theorem shX_42 : shX[42]? = some (.inr (.inl (0, 12))) := rfl
theorem shX_43 : shX[43]? = some (.inr (.inl (0, 8))) := rfl
theorem shX_44 : shX[44]? = some (.inr (.inl (0, 8))) := rfl
theorem shX_45 : shX[45]? = some (.inr (.inl (0, 8))) := rfl
theorem shX_46 : shX[46]? = some (.inr (.inl (0, 8))) := rfl
theorem shX_47 : shX[47]? = some (.inl (4, [some 48, some 49, none, none, some 50, none, some 51, some 52, none, some 53])) := rfl
theorem shX_48 : shX[48]? = some (.inr (.inl (0, 12))) := rfl
theorem shX_49 : shX[49]? = some (.inr (.inl (0, 12))) := rfl
theorem shX_50 : shX[50]? = some (.inr (.inl (0, 8))) := rfl
theorem shX_51 : shX[51]? = some (.inr (.inl (0, 8))) := rfl
theorem shX_52 : shX[52]? = some (.inr (.inl (0, 8))) := rfl
theorem shX_53 : shX[53]? = some (.inr (.inl (0, 8))) := rfl
theorem shX_54 : shX[54]? = some (.inl (4, [some 55, some 56, none, none, some 57, none, some 58, some 59, none, some 60])) := rfl
theorem shX_55 : shX[55]? = some (.inr (.inl (0, 12))) := rfl
theorem shX_56 : shX[56]? = some (.inr (.inl (0, 12))) := rfl
theorem shX_57 : shX[57]? = some (.inr (.inl (0, 8))) := rfl
theorem shX_58 : shX[58]? = some (.inr (.inl (0, 8))) := rfl
theorem shX_59 : shX[59]? = some (.inr (.inl (0, 8))) := rfl
theorem shX_60 : shX[60]? = some (.inr (.inl (0, 8))) := rfl
theorem shX_61 : shX[61]? = some (.inl (0, [some 10, some 1, some 3, some 62])) := rfl
theorem shX_62 : shX[62]? = some (.inr (.inl (0, 8))) := rfl
theorem shX_63 : shX[63]? = some (.inl (6, [some 64, none, none, none, some 65, none, none])) := rfl
theorem shX_64 : shX[64]? = some (.inr (.inl (3, 60))) := rfl
theorem shX_65 : shX[65]? = some (.inr (.inl (0, 8))) := rfl
theorem shX_66 : shX[66]? = some (.inl (1, [some 1, some 67, none, some 68])) := rfl
theorem shX_67 : shX[67]? = some (.inr (.inl (2, 4096))) := rfl
theorem shX_68 : shX[68]? = some (.inr (.inl (0, 206))) := rfl
