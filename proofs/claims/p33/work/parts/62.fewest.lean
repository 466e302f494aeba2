/-! the law: the fewest jars for a mix, beside all sets -/
theorem bit_at : ∀ k : Fin 128, ∀ j : Fin 12, and32 (ishr32 (k.val : Int) (j.val : Int)) 1 = ((k.val / tw j.val % 2 : Nat) : Int) := by decide +kernel
theorem shl_at : ∀ n : Fin 8, shl32 1 (n.val : Int) = ((tw n.val : Nat) : Int) := by decide +kernel
theorem tw_7 {n : Nat} (h : n ≤ 7) : tw n ≤ 128 := tw_mono (k := 7) h
theorem size_lp {m : Nat} (hm : m < 128) (j : Nat) : ∀ (i n : Nat) (x : Int), i + j = 12 → j < n → 0 ≤ x → x + j ≤ 1000 → xl_size_4 n m x i = some (x + popF j (m / tw i)) := by
  induction j with
  | zero =>
    intro i n x hi hn hx hx2
    obtain ⟨n, rfl⟩ : ∃ m, n = m + 1 := ⟨n - 1, by omega⟩
    rw [xl_size_4, if_pos (by omega), xl_size_24, popF, Int.add_zero]
  | succ j ih =>
    intro i n x hi hn hx hx2
    obtain ⟨n, rfl⟩ : ∃ m, n = m + 1 := ⟨n - 1, by omega⟩
    have e3 : w32 ((i : Int) + 1) = ((i + 1 : Nat) : Int) := by rw [w32_eq (by omega) (by omega)]; omega
    have hb : and32 (ishr32 (m : Int) (i : Int)) 1 = ((m / tw i % 2 : Nat) : Int) := bit_at ⟨m, hm⟩ ⟨i, by omega⟩
    have hd : m / tw i / 2 = m / tw (i + 1) := by rw [tw, Nat.div_div_eq_div_mul, Nat.mul_comm]
    rw [xl_size_4, if_neg (by omega), hb, bnd_eq, bnd_eq, e3, w32_eq (x := x + ((m / tw i % 2 : Nat) : Int)) (by omega) (by omega), ih (i + 1) n _ (by omega) (by omega) (by omega) (by omega), popF, hd, Int.add_assoc]
theorem size_eq {m : Nat} (hm : m < 128) : xl_size m = some (popF 12 m) := by
  have h := size_lp hm 12 0 FU 0 (by omega) (by have := FU_ge; omega) (by omega) (by omega)
  rw [show ((0 : Nat) : Int) = 0 from rfl, show tw 0 = 1 from rfl, Nat.div_one, Int.zero_add] at h
  rw [xl_size]
  exact h
theorem SM_bit {g : Nat → Int} {k j : Nat} : SM g (j + 1) (k % tw (j + 1)) = if k / tw j % 2 = 1 then mx (SM g j (k % tw j)) (g j) else SM g j (k % tw j) := by
  have hp := tw_pos j
  have hl := Nat.mod_lt k hp
  have e : k % tw (j + 1) = k % tw j + tw j * (k / tw j % 2) := by rw [tw, Nat.mul_comm 2, Nat.mod_mul]
  rw [SM, e]
  by_cases c : k / tw j % 2 = 1
  · rw [if_pos c, c, Nat.mul_one, if_pos (by omega), Nat.add_sub_cancel]
  · rw [if_neg c, show k / tw j % 2 = 0 by omega, Nat.mul_zero, Nat.add_zero, if_neg (by omega)]
section FEW
variable {a : Nat → Int} {ob : Option (Nat → Int)} {t e : Int}
def bes (c : Int) : Int := if c = -5 then -1 else c
theorem few_in {K : Int → Int → Int → Int → Int → Int → Int → Int → Mem → Option (Int × Mem)} {x3 x4 x5 x6 x7 : Int} {k : Nat} (o : OD a e) (hk : k < tw (a 8).toNat) (fin : ∀ ν, ST a ob t ν → AN (xl_areFewestSo_108 K (a 8) x3 x4 x5 x6 x7 1 k (SM (fun q => a (10 + 2 * q)) (a 8).toNat k) ν) 1 (ST a ob t)) (i : Nat) : ∀ (j n : Nat) (ν : Mem), (j : Int) + i = a 8 → i < n → ST a ob t ν → AN (xl_areFewestSo_61 K n (a 8) x3 x4 x5 x6 x7 1 k (SM (fun q => a (10 + 2 * q)) j (k % tw j)) j ν) 1 (ST a ob t) := by
  have o7 := o.2.2.1
  induction i with
  | zero =>
    intro j n ν hj hn h
    obtain ⟨n, rfl⟩ : ∃ m, n = m + 1 := ⟨n - 1, by omega⟩
    have e1 : (a 8).toNat = j := by omega
    have := fin ν h
    rw [e1] at this hk
    rw [xl_areFewestSo_61, if_pos (by omega), Nat.mod_eq_of_lt hk]
    exact this
  | succ i ih =>
    intro j n ν hj hn h
    obtain ⟨n, rfl⟩ : ∃ m, n = m + 1 := ⟨n - 1, by omega⟩
    have w8 := h.1.1.2.1
    have hk1 : (j : Int) < a 8 := by omega
    have ht7 := tw_7 (n := (a 8).toNat) (by omega)
    have f := fnd_at o hk1
    have m := (h.1.1.2.2.1 j hk1).1
    have hM := SM_M (fun q => a (10 + 2 * q)) j (k % tw j)
    have e3 : w32 ((j : Int) + 1) = ((j + 1 : Nat) : Int) := by rw [w32_eq (by omega) (by omega)]; omega
    have hb : and32 (ishr32 (k : Int) (j : Int)) 1 = ((k / tw j % 2 : Nat) : Int) := bit_at ⟨k, by omega⟩ ⟨j, by omega⟩
    have hs := SM_bit (g := fun q => a (10 + 2 * q)) (k := k) (j := j)
    have i1 := ih (j + 1) n
    rw [hs] at i1
    rw [xl_areFewestSo_61, if_neg (by omega), hb]
    by_cases c : k / tw j % 2 = 1
    · rw [if_pos c] at i1
      rw [if_pos (by omega), q_rank h hk1, sb]
      refine (q_j0 h hk1 f).bind fun ν1 h1 => ?_
      dsimp only
      rw [q_tog h1 hM m, sb, xl_areFewestSo_100, bnd_eq, e3]
      exact i1 ν1 (by omega) (by omega) h1
    · rw [if_neg c] at i1
      rw [if_neg (by omega), xl_areFewestSo_100, bnd_eq, e3]
      exact i1 ν (by omega) (by omega) h
theorem few_end {x : Int} {ν : Mem} (h : ST a ob t ν) (hx : mkx a ≤ x) (o : OD a e) : AN (xl_areFewestSo_215 (a 8) x ν) 1 (ST a ob t) := by
  have o7 := o.2.2.1
  obtain ⟨b1, b2, b3⟩ := mkx_b h
  rw [xl_areFewestSo_215]
  refine (q_make h).bind fun ν1 h1 => ?_
  dsimp only
  rw [if_neg (by omega), if_neg (by omega)]
  refine (q_make h1).bind fun ν2 h2 => ?_
  dsimp only
  rw [if_neg (by omega), xl_areFewestSo_238]
  refine (q_make h2).bind fun ν3 h3 => ?_
  dsimp only
  refine (q_c4 h3).bind fun ν4 h4 => ?_
  dsimp only
  rw [if_neg (by omega), xl_areFewestSo_255, if_pos (Or.inr rfl)]
  exact AN.ret h4
theorem few_res {c x : Int} {ν : Mem} (h : ST a ob t ν) (o : OD a e) (hx : mkx a ≤ x) (hc : c = -5 ∨ (0 ≤ c ∧ c < 128)) : AN (xl_areFewestSo_168 (a 8) (if c = -5 then -5 else popF 12 c.toNat) c (bes c) x 1 ν) 1 (ST a ob t) := by
  have o7 := o.2.2.1
  have fin := few_end h hx o
  unfold bes
  rw [xl_areFewestSo_168, if_neg (show ¬ (1 : Int) = 0 by decide), if_neg (by omega)]
  rcases hc with hc | hc
  · rw [if_pos hc, if_pos hc, if_neg (by decide), xl_areFewestSo_193, if_pos hc, if_neg (by decide), xl_areFewestSo_212, if_pos rfl]
    exact fin
  · have hne : ¬ c = -5 := by omega
    obtain ⟨m, hm⟩ := Int.eq_ofNat_of_zero_le hc.1
    rw [if_neg hne, if_neg hne, if_pos hc.1, xl_areFewestSo_193, if_pos rfl, if_pos hc.1, hm, size_eq (m := m) (by omega), sb, xl_areFewestSo_212, Int.toNat_natCast, if_pos rfl]
    exact fin
theorem few_lp {m : Int} (hm : isM m) (o : OD a e) {n3 n4 : Int} (fin : ∀ c ν, ST a ob t ν → c = fwx a m → AN (xl_areFewestSo_168 (a 8) n3 n4 (bes c) ((tw (a 8).toNat : Nat) : Int) 1 ν) 1 (ST a ob t)) (j : Nat) : ∀ (k n : Nat) (c : Int) (ν : Mem), k + j = tw (a 8).toNat → j < n → ST a ob t ν → (c = -5 ∨ (0 ≤ c ∧ c < k)) → fwF (fun s => tau (sp a) (SM (fun q => a (10 + 2 * q)) (a 8).toNat s)) (tau (sp a) m) j k c = fwx a m → AN (xl_areFewestSo_41 n (a 8) n3 n4 (tau (sp a) m) (bes c) k 1 k ν) 1 (ST a ob t) := by
  have o7 := o.2.2.1
  induction j with
  | zero =>
    intro k n c ν hk hn h hc hf
    obtain ⟨n, rfl⟩ : ∃ m, n = m + 1 := ⟨n - 1, by omega⟩
    have w8 := h.1.1.2.1
    have hsh : shl32 1 (a 8) = ((tw (a 8).toNat : Nat) : Int) := by
      have := shl_at ⟨(a 8).toNat, by omega⟩
      rwa [show (((⟨(a 8).toNat, by omega⟩ : Fin 8).val : Nat) : Int) = a 8 by dsimp only; omega] at this
    rw [fwF] at hf
    rw [xl_areFewestSo_41, hsh, if_pos (by omega), show ((k : Nat) : Int) = ((tw (a 8).toNat : Nat) : Int) by omega]
    exact fin c ν h hf
  | succ j ih =>
    intro k n c ν hk hn h hc hf
    obtain ⟨n, rfl⟩ : ∃ m, n = m + 1 := ⟨n - 1, by omega⟩
    have w8 := h.1.1.2.1
    have ht7 := tw_7 (n := (a 8).toNat) (by omega)
    have hsh : shl32 1 (a 8) = ((tw (a 8).toNat : Nat) : Int) := by
      have := shl_at ⟨(a 8).toNat, by omega⟩
      rwa [show (((⟨(a 8).toNat, by omega⟩ : Fin 8).val : Nat) : Int) = a 8 by dsimp only; omega] at this
    have e3 : w32 ((k : Int) + 1) = ((k + 1 : Nat) : Int) := by rw [w32_eq (by omega) (by omega)]; omega
    have hM := SM_M (fun q => a (10 + 2 * q)) (a 8).toNat k
    rw [fwF] at hf
    rw [xl_areFewestSo_41, hsh, if_neg (by omega), if_neg (by omega)]
    have g := few_in (ob := ob) (t := t) (K := xl_areFewestSo_41 n) (x3 := n3) (x4 := n4) (x5 := tau (sp a) m) (x6 := bes c) (x7 := k) (k := k) o (by omega) (fun ν1 h1 => ?_) (a 8).toNat 0 FU ν (by omega) (by have := FU_ge; omega) h
    · exact g
    · rw [xl_areFewestSo_108]
      refine (q_m2 h1 hM).bind fun ν2 h2 => ?_
      dsimp only
      have keep : fwF (fun s => tau (sp a) (SM (fun q => a (10 + 2 * q)) (a 8).toNat s)) (tau (sp a) m) j (k + 1) c = fwx a m → AN (xl_areFewestSo_155 (xl_areFewestSo_41 n) (a 8) n3 n4 (tau (sp a) m) (bes c) k 1 k ν2) 1 (ST a ob t) := fun hf => by
        rw [xl_areFewestSo_155, xl_areFewestSo_157, bnd_eq, e3, bnd_eq]
        exact ih (k + 1) n c ν2 (by omega) (by omega) h2 (by omega) hf
      have take : fwF (fun s => tau (sp a) (SM (fun q => a (10 + 2 * q)) (a 8).toNat s)) (tau (sp a) m) j (k + 1) (k : Int) = fwx a m → AN (xl_areFewestSo_150 (xl_areFewestSo_41 n) (a 8) n3 n4 (tau (sp a) m) k 1 k ν2) 1 (ST a ob t) := fun hf => by
        have i1 := ih (k + 1) n (k : Int) ν2 (by omega) (by omega) h2 (by omega) hf
        unfold bes at i1
        rw [if_neg (by omega)] at i1
        rw [xl_areFewestSo_150, xl_areFewestSo_157, bnd_eq, e3, bnd_eq]
        exact i1
      by_cases d : tau (sp a) (SM (fun q => a (10 + 2 * q)) (a 8).toNat k) = tau (sp a) m
      · rw [if_pos d] at hf
        rw [if_pos d, xl_areFewestSo_125, if_neg (show ¬ (1 : Int) = 0 by decide)]
        by_cases c5 : c = -5
        · rw [if_pos c5] at hf
          rw [if_pos (by unfold bes; rw [if_pos c5]; decide)]
          exact take hf
        · have hc' := hc.resolve_left c5
          obtain ⟨cn, hcn⟩ := Int.eq_ofNat_of_zero_le hc'.1
          have hbes : bes c = c := by unfold bes; rw [if_neg c5]
          rw [if_neg c5] at hf
          rw [if_neg (by rw [hbes]; omega), size_eq (m := k) (by omega), sb, hbes, hcn, size_eq (m := cn) (by omega), sb]
          rw [hbes, hcn] at keep
          rw [hcn, Int.toNat_natCast] at hf
          by_cases d2 : popF 12 cn ≤ popF 12 k
          · rw [if_pos d2] at hf
            rw [if_pos d2]
            exact keep hf
          · rw [if_neg d2] at hf
            rw [if_neg d2]
            exact take hf
      · rw [if_neg d] at hf
        rw [if_neg d, xl_areFewestSo_125, if_pos rfl]
        exact keep hf
theorem l_fewest {m : Int} {ν : Mem} (h : ST a ob t ν) (hm : isM m) (o : OD a e) : AN (xl_areFewestSo m ν) 1 (ST a ob t) := by
  have o7 := o.2.2.1
  have w8 := h.1.1.2.1
  have ht7 := tw_7 (n := (a 8).toNat) (by omega)
  obtain ⟨b1, b2, b3⟩ := mkx_b h
  have hfb := fwx_b h m
  rw [xl_areFewestSo]
  refine (q_c0 h).bind fun ν1 h1 => ?_
  dsimp only
  rw [bnd_eq]
  refine (q_few0 h1 hm).bind fun ν2 h2 => ?_
  dsimp only
  rw [bnd_eq]
  refine (q_few1 h2 hm).bind fun ν3 h3 => ?_
  dsimp only
  rw [bnd_eq]
  refine (q_m2 h3 hm).bind fun ν4 h4 => ?_
  dsimp only
  rw [bnd_eq]
  have g := few_lp (ob := ob) (t := t) (n3 := if fwx a m = -5 then -5 else popF 12 (fwx a m).toNat) (n4 := fwx a m) hm o (fun c ν5 h5 hc => by rw [hc]; exact few_res h5 o b2 (by omega)) (tw (a 8).toNat) 0 FU (-5) ν4 (by omega) (by have := FU_ge; omega) h4 (Or.inl rfl) rfl
  exact g
end FEW
