section DD
variable {l : Launch} {D : va_G} {ad : Nat → Nat} {ca : Nat → ClassId}
set_option maxRecDepth 100000 in
theorem eb_mm_in_15 {s0 : Int} {o0 : Option PV} {o1 : Option PV} {o2 : Option PV} {μ : Mem} {res : Int} (h : mm_in_15 s0 = some res) : G shM l D ad ca YX8_in 15 [o0, o1, o2] [.inl s0] μ (some (.inl res)) μ := by
  rw [mm_in_15] at h
  obtain ⟨hz, h⟩ := ite_yn h
  cases h
  exact G.zret .boolean dX8_in_15 rfl (nar_z hz)
set_option maxRecDepth 100000 in
theorem eb_mm_in_14 {o0 : Option PV} {o1 : Option PV} {o2 : Option PV} {μ : Mem} {res : Int} (h : mm_in_14 = some res) : G shM l D ad ca YX8_in 14 [o0, o1, o2] [] μ (some (.inl res)) μ := by
  rw [mm_in_14] at h
  refine G.iconst dX8_in_14 ki_0 ?_
  exact eb_mm_in_15  h
set_option maxRecDepth 100000 in
theorem e_mm_in {a1 : Int} {a2 : Int} {a3 : Int} {μ : Mem} {res : Int} (h : mm_in a1 a2 a3 = some res) : GM shM l D ad ca YX8_in [.inl a1, .inl a2, .inl a3] μ (some (.inl res)) μ := by
  refine GM.of (L := [some (.inl a1), some (.inl a2), some (.inl a3)]) (by decide +kernel) rfl (Nat.le_of_ble_eq_true rfl) ?_
  rw [mm_in] at h
  refine G.iload_n (i := 0) dX8_in_0 rfl rfl ?_
  refine G.iload_n (i := 1) dX8_in_1 rfl rfl ?_
  refine G.icmp_lt 14 dX8_in_2 rfl (fun c => ?_) (fun c => ?_)
  · replace h := (if_pos c).symm.trans h
    exact eb_mm_in_14  h
  · replace h := (if_neg c).symm.trans h
    refine G.iload_n (i := 0) dX8_in_5 rfl rfl ?_
    refine G.iload_n (i := 2) dX8_in_6 rfl rfl ?_
    refine G.icmp_gt 14 dX8_in_7 rfl (fun c => ?_) (fun c => ?_)
    · replace h := (if_pos c).symm.trans h
      exact eb_mm_in_14  h
    · replace h := (if_neg c).symm.trans h
      refine G.iconst dX8_in_10 ki_1 ?_
      refine G.goto 15 dX8_in_11 rfl ?_
      exact eb_mm_in_15  h
set_option maxRecDepth 100000 in
theorem e_mm_isMix {a1 : Int} {μ : Mem} {res : Int} (h : mm_isMix a1 = some res) : GM shM l D ad ca YX8_isMix [.inl a1] μ (some (.inl res)) μ := by
  refine GM.of (L := [some (.inl a1)]) (by decide +kernel) rfl (Nat.le_of_ble_eq_true rfl) ?_
  rw [mm_isMix] at h
  refine G.iload_n (i := 0) dX8_isMix_0 rfl rfl ?_
  refine G.iconst dX8_isMix_1 ki_0 ?_
  refine G.sipush dX8_isMix_2 ks_6560 ?_
  obtain ⟨v1, hv, h⟩ := bd h
  refine G.callS (e_mm_in hv) cs_X8_isMix_X8_in rfl (Nat.le_of_ble_eq_true rfl) q904 q905 dX8_isMix_5 ?_
  obtain ⟨hz, h⟩ := ite_yn h
  cases h
  exact G.zret .boolean dX8_isMix_8 rfl (nar_z hz)
set_option maxRecDepth 100000 in
theorem eb_mm_mixed_58 {x2 : Int} {o0 : Option PV} {o1 : Option PV} {o3 : Option PV} {o4 : Option PV} {o5 : Option PV} {o6 : Option PV} {μ : Mem} {res : Int} (h : mm_mixed_58 x2 = some res) : G shM l D ad ca YX8_mixed 58 [o0, o1, some (.inl x2), o3, o4, o5, o6] [] μ (some (.inl res)) μ := by
  rw [mm_mixed_58] at h
  refine G.iload_n (i := 2) dX8_mixed_58 rfl rfl ?_
  cases h
  exact G.iret dX8_mixed_59 rfl
set_option maxRecDepth 100000 in
theorem eb_mm_mixed_13 : ∀ (n : Nat) (x2 : Int) (x3 : Int) (x4 : Int) (x5 : Int) (x6 : Int) (o0 : Option PV) (o1 : Option PV) (μ : Mem) (res : Int), mm_mixed_13 n x2 x3 x4 x5 x6 = some res → G shM l D ad ca YX8_mixed 13 [o0, o1, some (.inl x2), some (.inl x3), some (.inl x4), some (.inl x5), some (.inl x6)] [] μ (some (.inl res)) μ := by
  intro n
  induction n with
  | zero =>
    intro x2 x3 x4 x5 x6 o0 o1 μ res h
    rw [mm_mixed_13] at h
    cases h
  | succ n ih =>
    intro x2 x3 x4 x5 x6 o0 o1 μ res h
    rw [mm_mixed_13] at h
    refine G.iload dX8_mixed_13 rfl ?_
    refine G.bipush dX8_mixed_15 kb_8 ?_
    refine G.icmp_ge 58 dX8_mixed_17 rfl (fun c => ?_) (fun c => ?_)
    · replace h := (if_pos c).symm.trans h
      exact eb_mm_mixed_58  h
    · replace h := (if_neg c).symm.trans h
      refine G.iload_n (i := 2) dX8_mixed_20 rfl rfl ?_
      refine G.iload dX8_mixed_21 rfl ?_
      refine G.iconst dX8_mixed_23 ki_3 ?_
      refine G.irem dX8_mixed_24 (by decide) ?_
      refine G.iload dX8_mixed_25 rfl ?_
      refine G.iconst dX8_mixed_27 ki_3 ?_
      refine G.irem dX8_mixed_28 (by decide) ?_
      refine G.iadd dX8_mixed_29 ?_
      refine G.iconst dX8_mixed_30 ki_3 ?_
      refine G.irem dX8_mixed_31 (by decide) ?_
      refine G.iload_n (i := 3) dX8_mixed_32 rfl rfl ?_
      refine G.imul dX8_mixed_33 ?_
      refine G.iadd dX8_mixed_34 ?_
      replace h := bnd_mp h
      refine G.istore_n (i := 2) dX8_mixed_35 rfl (Nat.le_of_ble_eq_true rfl) ?_
      refine G.iload_n (i := 3) dX8_mixed_36 rfl rfl ?_
      refine G.iconst dX8_mixed_37 ki_3 ?_
      refine G.imul dX8_mixed_38 ?_
      replace h := bnd_mp h
      refine G.istore_n (i := 3) dX8_mixed_39 rfl (Nat.le_of_ble_eq_true rfl) ?_
      refine G.iload dX8_mixed_40 rfl ?_
      refine G.iconst dX8_mixed_42 ki_3 ?_
      refine G.idiv dX8_mixed_43 (by decide) ?_
      replace h := bnd_mp h
      refine G.istore dX8_mixed_44 (Nat.le_of_ble_eq_true rfl) ?_
      refine G.iload dX8_mixed_46 rfl ?_
      refine G.iconst dX8_mixed_48 ki_3 ?_
      refine G.idiv dX8_mixed_49 (by decide) ?_
      replace h := bnd_mp h
      refine G.istore dX8_mixed_50 (Nat.le_of_ble_eq_true rfl) ?_
      replace h := bnd_mp h
      refine G.iinc dX8_mixed_52 rfl (Nat.le_of_ble_eq_true rfl) ?_
      refine G.goto 13 dX8_mixed_55 rfl ?_
      exact ih _ _ _ _ _ _ _ _ _ h
set_option maxRecDepth 100000 in
theorem e_mm_mixed {a1 : Int} {a2 : Int} {μ : Mem} {res : Int} (h : mm_mixed a1 a2 = some res) : GM shM l D ad ca YX8_mixed [.inl a1, .inl a2] μ (some (.inl res)) μ := by
  refine GM.of (L := [some (.inl a1), some (.inl a2), none, none, none, none, none]) (by decide +kernel) rfl (Nat.le_of_ble_eq_true rfl) ?_
  rw [mm_mixed] at h
  refine G.iconst dX8_mixed_0 ki_0 ?_
  refine G.istore_n (i := 2) dX8_mixed_1 rfl (Nat.le_of_ble_eq_true rfl) ?_
  refine G.iconst dX8_mixed_2 ki_1 ?_
  refine G.istore_n (i := 3) dX8_mixed_3 rfl (Nat.le_of_ble_eq_true rfl) ?_
  refine G.iload_n (i := 0) dX8_mixed_4 rfl rfl ?_
  refine G.istore dX8_mixed_5 (Nat.le_of_ble_eq_true rfl) ?_
  refine G.iload_n (i := 1) dX8_mixed_7 rfl rfl ?_
  refine G.istore dX8_mixed_8 (Nat.le_of_ble_eq_true rfl) ?_
  refine G.iconst dX8_mixed_10 ki_0 ?_
  refine G.istore dX8_mixed_11 (Nat.le_of_ble_eq_true rfl) ?_
  exact eb_mm_mixed_13  _ _ _ _ _ _ _ _ _ _ h
set_option maxRecDepth 100000 in
theorem eb_mm_layBland_168 {x2 : Int} {o1 : Option PV} {o3 : Option PV} {o4 : Option PV} {o5 : Option PV} {o6 : Option PV} {μ : Mem} {res : (Int × Mem)} (h : mm_layBland_168 x2 μ = some res) : G shM l D ad ca YX8_layBland 168 [some (.inr 0), o1, some (.inl x2), o3, o4, o5, o6] [] μ (some (.inl res.1)) res.2 := by
  rw [mm_layBland_168] at h
  refine G.iload_n (i := 2) dX8_layBland_168 rfl rfl ?_
  cases h
  exact G.iret dX8_layBland_169 rfl
set_option maxRecDepth 100000 in
theorem eb_mm_layBland_162 {K34 : Int → Int → Int → Mem → Option (Int × Mem)} (hK34 : ∀ (x1 : Int) (x2 : Int) (x3 : Int) (o4 : Option PV) (o5 : Option PV) (o6 : Option PV) (μ : Mem) (res : (Int × Mem)), K34 x1 x2 x3 μ = some res → G shM l D ad ca YX8_layBland 34 [some (.inr 0), some (.inl x1), some (.inl x2), some (.inl x3), o4, o5, o6] [] μ (some (.inl res.1)) res.2) {x1 : Int} {x2 : Int} {x3 : Int} {o4 : Option PV} {o5 : Option PV} {o6 : Option PV} {μ : Mem} {res : (Int × Mem)} (h : mm_layBland_162 K34 x1 x2 x3 μ = some res) : G shM l D ad ca YX8_layBland 162 [some (.inr 0), some (.inl x1), some (.inl x2), some (.inl x3), o4, o5, o6] [] μ (some (.inl res.1)) res.2 := by
  rw [mm_layBland_162] at h
  replace h := bnd_mp h
  refine G.iinc dX8_layBland_162 rfl (Nat.le_of_ble_eq_true rfl) ?_
  refine G.goto 34 dX8_layBland_165 rfl ?_
  exact hK34 _ _ _ _ _ _ _ _ h
set_option maxRecDepth 100000 in
theorem eb_mm_layBland_156 {K108 : Int → Int → Int → Int → Int → Mem → Option (Int × Mem)} (hK108 : ∀ (x1 : Int) (x2 : Int) (x3 : Int) (x4 : Int) (x5 : Int) (o6 : Option PV) (μ : Mem) (res : (Int × Mem)), K108 x1 x2 x3 x4 x5 μ = some res → G shM l D ad ca YX8_layBland 108 [some (.inr 0), some (.inl x1), some (.inl x2), some (.inl x3), some (.inl x4), some (.inl x5), o6] [] μ (some (.inl res.1)) res.2) {x1 : Int} {x2 : Int} {x3 : Int} {x4 : Int} {x5 : Int} {o6 : Option PV} {μ : Mem} {res : (Int × Mem)} (h : mm_layBland_156 K108 x1 x2 x3 x4 x5 μ = some res) : G shM l D ad ca YX8_layBland 156 [some (.inr 0), some (.inl x1), some (.inl x2), some (.inl x3), some (.inl x4), some (.inl x5), o6] [] μ (some (.inl res.1)) res.2 := by
  rw [mm_layBland_156] at h
  replace h := bnd_mp h
  refine G.iinc dX8_layBland_156 rfl (Nat.le_of_ble_eq_true rfl) ?_
  refine G.goto 108 dX8_layBland_159 rfl ?_
  exact hK108 _ _ _ _ _ _ _ _ h
set_option maxRecDepth 100000 in
theorem eb_mm_layBland_108 {K34 : Int → Int → Int → Mem → Option (Int × Mem)} (hK34 : ∀ (x1 : Int) (x2 : Int) (x3 : Int) (o4 : Option PV) (o5 : Option PV) (o6 : Option PV) (μ : Mem) (res : (Int × Mem)), K34 x1 x2 x3 μ = some res → G shM l D ad ca YX8_layBland 34 [some (.inr 0), some (.inl x1), some (.inl x2), some (.inl x3), o4, o5, o6] [] μ (some (.inl res.1)) res.2) : ∀ (n : Nat) (x1 : Int) (x2 : Int) (x3 : Int) (x4 : Int) (x5 : Int) (o6 : Option PV) (μ : Mem) (res : (Int × Mem)), mm_layBland_108 K34 n x1 x2 x3 x4 x5 μ = some res → G shM l D ad ca YX8_layBland 108 [some (.inr 0), some (.inl x1), some (.inl x2), some (.inl x3), some (.inl x4), some (.inl x5), o6] [] μ (some (.inl res.1)) res.2 := by
  intro n
  induction n with
  | zero =>
    intro x1 x2 x3 x4 x5 o6 μ res h
    rw [mm_layBland_108] at h
    cases h
  | succ n ih =>
    intro x1 x2 x3 x4 x5 o6 μ res h
    rw [mm_layBland_108] at h
    refine G.iload dX8_layBland_108 rfl ?_
    refine G.sipush dX8_layBland_110 ks_6561 ?_
    refine G.icmp_ge 162 dX8_layBland_113 rfl (fun c => ?_) (fun c => ?_)
    · replace h := (if_pos c).symm.trans h
      exact eb_mm_layBland_162 hK34 h
    · replace h := (if_neg c).symm.trans h
      refine G.aload_n (i := 0) dX8_layBland_116 rfl rfl ?_
      refine G.getR ck8 shM_0 13 rfl (by decide) q851 dX8_layBland_117 ?_
      refine G.iload dX8_layBland_120 rfl ?_
      obtain ⟨v5, hv, h⟩ := bd h
      obtain ⟨hb, rfl⟩ := aget_some hv
      refine G.zald shM_9 hb dX8_layBland_122 ?_
      refine G.if_eq 156 dX8_layBland_123 rfl (fun c => ?_) (fun c => ?_)
      · replace h := (if_pos c).symm.trans h
        exact eb_mm_layBland_156 ih h
      · replace h := (if_neg c).symm.trans h
        refine G.iload dX8_layBland_126 rfl ?_
        refine G.iload dX8_layBland_128 rfl ?_
        obtain ⟨v7, hv, h⟩ := bd h
        refine G.callS (e_mm_mixed hv) cs_X8_layBland_X8_mixed rfl (Nat.le_of_ble_eq_true rfl) q946 q947 dX8_layBland_130 ?_
        refine G.istore dX8_layBland_133 (Nat.le_of_ble_eq_true rfl) ?_
        refine G.aload_n (i := 0) dX8_layBland_135 rfl rfl ?_
        refine G.getR ck8 shM_0 10 rfl (by decide) q848 dX8_layBland_136 ?_
        refine G.iload dX8_layBland_139 rfl ?_
        refine G.iconst dX8_layBland_141 ki_1 ?_
        obtain ⟨μ8, hv, h⟩ := bd h
        obtain ⟨hb, rfl⟩ := aput_some hv
        refine G.zast shM_6 hb dX8_layBland_142 ?_
        refine G.aload_n (i := 0) dX8_layBland_143 rfl rfl ?_
        refine G.getR ck8 shM_0 10 rfl (by decide) q848 dX8_layBland_144 ?_
        refine G.iload dX8_layBland_147 rfl ?_
        refine G.iload dX8_layBland_149 rfl ?_
        obtain ⟨v9, hv, h⟩ := bd h
        refine G.callS (e_mm_mixed hv) cs_X8_layBland_X8_mixed rfl (Nat.le_of_ble_eq_true rfl) q946 q947 dX8_layBland_151 ?_
        refine G.iconst dX8_layBland_154 ki_1 ?_
        obtain ⟨μ10, hv, h⟩ := bd h
        obtain ⟨hb, rfl⟩ := aput_some hv
        refine G.zast shM_6 hb dX8_layBland_155 ?_
        exact eb_mm_layBland_156 ih h
set_option maxRecDepth 100000 in
theorem eb_mm_layBland_105 {K34 : Int → Int → Int → Mem → Option (Int × Mem)} (hK34 : ∀ (x1 : Int) (x2 : Int) (x3 : Int) (o4 : Option PV) (o5 : Option PV) (o6 : Option PV) (μ : Mem) (res : (Int × Mem)), K34 x1 x2 x3 μ = some res → G shM l D ad ca YX8_layBland 34 [some (.inr 0), some (.inl x1), some (.inl x2), some (.inl x3), o4, o5, o6] [] μ (some (.inl res.1)) res.2) {x1 : Int} {x2 : Int} {x3 : Int} {x4 : Int} {o5 : Option PV} {o6 : Option PV} {μ : Mem} {res : (Int × Mem)} (h : mm_layBland_105 K34 x1 x2 x3 x4 μ = some res) : G shM l D ad ca YX8_layBland 105 [some (.inr 0), some (.inl x1), some (.inl x2), some (.inl x3), some (.inl x4), o5, o6] [] μ (some (.inl res.1)) res.2 := by
  rw [mm_layBland_105] at h
  refine G.iconst dX8_layBland_105 ki_0 ?_
  refine G.istore dX8_layBland_106 (Nat.le_of_ble_eq_true rfl) ?_
  exact eb_mm_layBland_108 hK34 _ _ _ _ _ _ _ _ _ h
set_option maxRecDepth 100000 in
theorem eb_mm_layBland_77 {K34 : Int → Int → Int → Mem → Option (Int × Mem)} (hK34 : ∀ (x1 : Int) (x2 : Int) (x3 : Int) (o4 : Option PV) (o5 : Option PV) (o6 : Option PV) (μ : Mem) (res : (Int × Mem)), K34 x1 x2 x3 μ = some res → G shM l D ad ca YX8_layBland 34 [some (.inr 0), some (.inl x1), some (.inl x2), some (.inl x3), o4, o5, o6] [] μ (some (.inl res.1)) res.2) : ∀ (n : Nat) (x1 : Int) (x2 : Int) (x3 : Int) (x4 : Int) (x5 : Int) (o6 : Option PV) (μ : Mem) (res : (Int × Mem)), mm_layBland_77 K34 n x1 x2 x3 x4 x5 μ = some res → G shM l D ad ca YX8_layBland 77 [some (.inr 0), some (.inl x1), some (.inl x2), some (.inl x3), some (.inl x4), some (.inl x5), o6] [] μ (some (.inl res.1)) res.2 := by
  intro n
  induction n with
  | zero =>
    intro x1 x2 x3 x4 x5 o6 μ res h
    rw [mm_layBland_77] at h
    cases h
  | succ n ih =>
    intro x1 x2 x3 x4 x5 o6 μ res h
    rw [mm_layBland_77] at h
    refine G.iload dX8_layBland_77 rfl ?_
    refine G.sipush dX8_layBland_79 ks_6561 ?_
    refine G.icmp_ge 105 dX8_layBland_82 rfl (fun c => ?_) (fun c => ?_)
    · replace h := (if_pos c).symm.trans h
      exact eb_mm_layBland_105 hK34 h
    · replace h := (if_neg c).symm.trans h
      refine G.aload_n (i := 0) dX8_layBland_85 rfl rfl ?_
      refine G.getR ck8 shM_0 13 rfl (by decide) q851 dX8_layBland_86 ?_
      refine G.iload dX8_layBland_89 rfl ?_
      refine G.aload_n (i := 0) dX8_layBland_91 rfl rfl ?_
      refine G.getR ck8 shM_0 10 rfl (by decide) q848 dX8_layBland_92 ?_
      refine G.iload dX8_layBland_95 rfl ?_
      obtain ⟨v11, hv, h⟩ := bd h
      obtain ⟨hb, rfl⟩ := aget_some hv
      refine G.zald shM_6 hb dX8_layBland_97 ?_
      obtain ⟨μ12, hv, h⟩ := bd h
      obtain ⟨hb, rfl⟩ := aput_some hv
      refine G.zast shM_9 hb dX8_layBland_98 ?_
      replace h := bnd_mp h
      refine G.iinc dX8_layBland_99 rfl (Nat.le_of_ble_eq_true rfl) ?_
      refine G.goto 77 dX8_layBland_102 rfl ?_
      exact ih _ _ _ _ _ _ _ _ h
set_option maxRecDepth 100000 in
theorem eb_mm_layBland_34 : ∀ (n : Nat) (x1 : Int) (x2 : Int) (x3 : Int) (o4 : Option PV) (o5 : Option PV) (o6 : Option PV) (μ : Mem) (res : (Int × Mem)), mm_layBland_34 n x1 x2 x3 μ = some res → G shM l D ad ca YX8_layBland 34 [some (.inr 0), some (.inl x1), some (.inl x2), some (.inl x3), o4, o5, o6] [] μ (some (.inl res.1)) res.2 := by
  intro n
  induction n with
  | zero =>
    intro x1 x2 x3 o4 o5 o6 μ res h
    rw [mm_layBland_34] at h
    cases h
  | succ n ih =>
    intro x1 x2 x3 o4 o5 o6 μ res h
    rw [mm_layBland_34] at h
    refine G.iload_n (i := 3) dX8_layBland_34 rfl rfl ?_
    refine G.aload_n (i := 0) dX8_layBland_35 rfl rfl ?_
    refine G.getR ck8 shM_0 0 rfl (by decide) q838 dX8_layBland_36 ?_
    refine G.bipush dX8_layBland_39 kb_34 ?_
    refine G.ialdc 34 shM_1 rfl (by decide) dX8_layBland_41 ?_
    refine G.icmp_ge 168 dX8_layBland_42 rfl (fun c => ?_) (fun c => ?_)
    · replace h := (if_pos c).symm.trans h
      exact eb_mm_layBland_168  h
    · replace h := (if_neg c).symm.trans h
      refine G.aload_n (i := 0) dX8_layBland_45 rfl rfl ?_
      refine G.getR ck8 shM_0 0 rfl (by decide) q838 dX8_layBland_46 ?_
      refine G.bipush dX8_layBland_49 kb_35 ?_
      refine G.iload_n (i := 3) dX8_layBland_51 rfl rfl ?_
      refine G.iadd dX8_layBland_52 ?_
      obtain ⟨v1, hv, h⟩ := bd h
      obtain ⟨hb, rfl⟩ := aget_some hv
      refine G.iald shM_1 hb dX8_layBland_53 ?_
      refine G.istore dX8_layBland_54 (Nat.le_of_ble_eq_true rfl) ?_
      refine G.iload_n (i := 3) dX8_layBland_56 rfl rfl ?_
      refine G.iload_n (i := 1) dX8_layBland_57 rfl rfl ?_
      refine G.icmp_eq 162 dX8_layBland_58 rfl (fun c => ?_) (fun c => ?_)
      · replace h := (if_pos c).symm.trans h
        exact eb_mm_layBland_162 ih h
      · replace h := (if_neg c).symm.trans h
        refine G.aload_n (i := 0) dX8_layBland_61 rfl rfl ?_
        refine G.getR ck8 shM_0 10 rfl (by decide) q848 dX8_layBland_62 ?_
        refine G.iload dX8_layBland_65 rfl ?_
        obtain ⟨v3, hv, h⟩ := bd h
        obtain ⟨hb, rfl⟩ := aget_some hv
        refine G.zald shM_6 hb dX8_layBland_67 ?_
        refine G.if_ne 162 dX8_layBland_68 rfl (fun c => ?_) (fun c => ?_)
        · replace h := (if_neg c).symm.trans h
          exact eb_mm_layBland_162 ih h
        · replace h := (if_pos c).symm.trans h
          replace h := bnd_mp h
          refine G.iinc dX8_layBland_71 rfl (Nat.le_of_ble_eq_true rfl) ?_
          refine G.iconst dX8_layBland_74 ki_0 ?_
          refine G.istore dX8_layBland_75 (Nat.le_of_ble_eq_true rfl) ?_
          exact eb_mm_layBland_77 ih _ _ _ _ _ _ _ _ _ h
set_option maxRecDepth 100000 in
theorem eb_mm_layBland_30 {x1 : Int} {o2 : Option PV} {o3 : Option PV} {o4 : Option PV} {o5 : Option PV} {o6 : Option PV} {μ : Mem} {res : (Int × Mem)} (h : mm_layBland_30 x1 μ = some res) : G shM l D ad ca YX8_layBland 30 [some (.inr 0), some (.inl x1), o2, o3, o4, o5, o6] [] μ (some (.inl res.1)) res.2 := by
  rw [mm_layBland_30] at h
  refine G.iconst dX8_layBland_30 ki_0 ?_
  refine G.istore_n (i := 2) dX8_layBland_31 rfl (Nat.le_of_ble_eq_true rfl) ?_
  refine G.iconst dX8_layBland_32 ki_0 ?_
  refine G.istore_n (i := 3) dX8_layBland_33 rfl (Nat.le_of_ble_eq_true rfl) ?_
  exact eb_mm_layBland_34  _ _ _ _ _ _ _ _ _ h
set_option maxRecDepth 100000 in
theorem eb_mm_layBland_23 {K2 : Int → Int → Mem → Option (Int × Mem)} (hK2 : ∀ (x1 : Int) (x2 : Int) (o3 : Option PV) (o4 : Option PV) (o5 : Option PV) (o6 : Option PV) (μ : Mem) (res : (Int × Mem)), K2 x1 x2 μ = some res → G shM l D ad ca YX8_layBland 2 [some (.inr 0), some (.inl x1), some (.inl x2), o3, o4, o5, o6] [] μ (some (.inl res.1)) res.2) {x1 : Int} {x2 : Int} {s1 : Int} {s2 : Int} {o3 : Option PV} {o4 : Option PV} {o5 : Option PV} {o6 : Option PV} {μ : Mem} {res : (Int × Mem)} (h : mm_layBland_23 K2 x1 x2 s1 s2 μ = some res) : G shM l D ad ca YX8_layBland 23 [some (.inr 0), some (.inl x1), some (.inl x2), o3, o4, o5, o6] [.inl s2, .inl s1, .inr 6] μ (some (.inl res.1)) res.2 := by
  rw [mm_layBland_23] at h
  obtain ⟨μ14, hv, h⟩ := bd h
  obtain ⟨hb, rfl⟩ := aput_some hv
  refine G.zast shM_6 hb dX8_layBland_23 ?_
  replace h := bnd_mp h
  refine G.iinc dX8_layBland_24 rfl (Nat.le_of_ble_eq_true rfl) ?_
  refine G.goto 2 dX8_layBland_27 rfl ?_
  exact hK2 _ _ _ _ _ _ _ _ h
set_option maxRecDepth 100000 in
theorem eb_mm_layBland_2 : ∀ (n : Nat) (x1 : Int) (x2 : Int) (o3 : Option PV) (o4 : Option PV) (o5 : Option PV) (o6 : Option PV) (μ : Mem) (res : (Int × Mem)), mm_layBland_2 n x1 x2 μ = some res → G shM l D ad ca YX8_layBland 2 [some (.inr 0), some (.inl x1), some (.inl x2), o3, o4, o5, o6] [] μ (some (.inl res.1)) res.2 := by
  intro n
  induction n with
  | zero =>
    intro x1 x2 o3 o4 o5 o6 μ res h
    rw [mm_layBland_2] at h
    cases h
  | succ n ih =>
    intro x1 x2 o3 o4 o5 o6 μ res h
    rw [mm_layBland_2] at h
    refine G.iload_n (i := 2) dX8_layBland_2 rfl rfl ?_
    refine G.sipush dX8_layBland_3 ks_6561 ?_
    refine G.icmp_ge 30 dX8_layBland_6 rfl (fun c => ?_) (fun c => ?_)
    · replace h := (if_pos c).symm.trans h
      exact eb_mm_layBland_30  h
    · replace h := (if_neg c).symm.trans h
      refine G.aload_n (i := 0) dX8_layBland_9 rfl rfl ?_
      refine G.getR ck8 shM_0 10 rfl (by decide) q848 dX8_layBland_10 ?_
      refine G.iload_n (i := 2) dX8_layBland_13 rfl rfl ?_
      refine G.iload_n (i := 2) dX8_layBland_14 rfl rfl ?_
      refine G.if_ne 22 dX8_layBland_15 rfl (fun c => ?_) (fun c => ?_)
      · replace h := (if_neg c).symm.trans h
        refine G.iconst dX8_layBland_22 ki_0 ?_
        exact eb_mm_layBland_23 ih h
      · replace h := (if_pos c).symm.trans h
        refine G.iconst dX8_layBland_18 ki_1 ?_
        refine G.goto 23 dX8_layBland_19 rfl ?_
        exact eb_mm_layBland_23 ih h
set_option maxRecDepth 100000 in
theorem e_mm_layBland {a1 : Int} {μ : Mem} {res : (Int × Mem)} (h : mm_layBland a1 μ = some res) : GM shM l D ad ca YX8_layBland [.inr 0, .inl a1] μ (some (.inl res.1)) res.2 := by
  refine GM.of (L := [some (.inr 0), some (.inl a1), none, none, none, none, none]) (by decide +kernel) rfl (Nat.le_of_ble_eq_true rfl) ?_
  rw [mm_layBland] at h
  refine G.iconst dX8_layBland_0 ki_0 ?_
  refine G.istore_n (i := 2) dX8_layBland_1 rfl (Nat.le_of_ble_eq_true rfl) ?_
  exact eb_mm_layBland_2  _ _ _ _ _ _ _ _ _ h
set_option maxRecDepth 100000 in
theorem eb_mm_lay_130 {o1 : Option PV} {o2 : Option PV} {o3 : Option PV} {o4 : Option PV} {μ : Mem} {res : Mem} (h : mm_lay_130 μ = some res) : G shM l D ad ca YX8_lay 130 [some (.inr 0), o1, o2, o3, o4] [] μ none res := by
  rw [mm_lay_130] at h
  refine G.aload_n (i := 0) dX8_lay_130 rfl rfl ?_
  refine G.iconst dX8_lay_131 ki_1 ?_
  replace h := bnd_mp h
  refine G.putI ck8 shM_0 8 rfl (by decide) q846 rfl rfl rfl dX8_lay_132 ?_
  cases h
  exact G.vret dX8_lay_135 rfl
set_option maxRecDepth 100000 in
theorem eb_mm_lay_124 {K64 : Int → Int → Mem → Option Mem} (hK64 : ∀ (x1 : Int) (x2 : Int) (o3 : Option PV) (o4 : Option PV) (μ : Mem) (res : Mem), K64 x1 x2 μ = some res → G shM l D ad ca YX8_lay 64 [some (.inr 0), some (.inl x1), some (.inl x2), o3, o4] [] μ none res) {x1 : Int} {x2 : Int} {o3 : Option PV} {o4 : Option PV} {μ : Mem} {res : Mem} (h : mm_lay_124 K64 x1 x2 μ = some res) : G shM l D ad ca YX8_lay 124 [some (.inr 0), some (.inl x1), some (.inl x2), o3, o4] [] μ none res := by
  rw [mm_lay_124] at h
  replace h := bnd_mp h
  refine G.iinc dX8_lay_124 rfl (Nat.le_of_ble_eq_true rfl) ?_
  refine G.goto 64 dX8_lay_127 rfl ?_
  exact hK64 _ _ _ _ _ _ h
set_option maxRecDepth 100000 in
theorem eb_mm_lay_91 {K64 : Int → Int → Mem → Option Mem} (hK64 : ∀ (x1 : Int) (x2 : Int) (o3 : Option PV) (o4 : Option PV) (μ : Mem) (res : Mem), K64 x1 x2 μ = some res → G shM l D ad ca YX8_lay 64 [some (.inr 0), some (.inl x1), some (.inl x2), o3, o4] [] μ none res) : ∀ (n : Nat) (x1 : Int) (x2 : Int) (x3 : Int) (x4 : Int) (μ : Mem) (res : Mem), mm_lay_91 K64 n x1 x2 x3 x4 μ = some res → G shM l D ad ca YX8_lay 91 [some (.inr 0), some (.inl x1), some (.inl x2), some (.inl x3), some (.inl x4)] [] μ none res := by
  intro n
  induction n with
  | zero =>
    intro x1 x2 x3 x4 μ res h
    rw [mm_lay_91] at h
    cases h
  | succ n ih =>
    intro x1 x2 x3 x4 μ res h
    rw [mm_lay_91] at h
    refine G.iload dX8_lay_91 rfl ?_
    refine G.iload_n (i := 1) dX8_lay_93 rfl rfl ?_
    refine G.icmp_ge 124 dX8_lay_94 rfl (fun c => ?_) (fun c => ?_)
    · replace h := (if_pos c).symm.trans h
      exact eb_mm_lay_124 hK64 h
    · replace h := (if_neg c).symm.trans h
      refine G.iload_n (i := 3) dX8_lay_97 rfl rfl ?_
      refine G.if_eq 124 dX8_lay_98 rfl (fun c => ?_) (fun c => ?_)
      · replace h := (if_pos c).symm.trans h
        exact eb_mm_lay_124 hK64 h
      · replace h := (if_neg c).symm.trans h
        refine G.aload_n (i := 0) dX8_lay_101 rfl rfl ?_
        refine G.getR ck8 shM_0 11 rfl (by decide) q849 dX8_lay_102 ?_
        refine G.iload_n (i := 2) dX8_lay_105 rfl rfl ?_
        refine G.aload_n (i := 0) dX8_lay_106 rfl rfl ?_
        refine G.getR ck8 shM_0 12 rfl (by decide) q850 dX8_lay_107 ?_
        refine G.iload dX8_lay_110 rfl ?_
        obtain ⟨v6, hv, h⟩ := bd h
        obtain ⟨hb, rfl⟩ := aget_some hv
        refine G.iald shM_8 hb dX8_lay_112 ?_
        obtain ⟨v7, hv, h⟩ := bd h
        refine G.callS (e_mm_mixed hv) cs_X8_lay_X8_mixed rfl (Nat.le_of_ble_eq_true rfl) q946 q947 dX8_lay_113 ?_
        refine G.iload_n (i := 2) dX8_lay_116 rfl rfl ?_
        obtain ⟨μ8, hv, h⟩ := bd h
        obtain ⟨hb, rfl⟩ := aput_some hv
        refine G.iast shM_7 hb dX8_lay_117 ?_
        replace h := bnd_mp h
        refine G.iinc dX8_lay_118 rfl (Nat.le_of_ble_eq_true rfl) ?_
        refine G.goto 91 dX8_lay_121 rfl ?_
        exact ih _ _ _ _ _ _ h
set_option maxRecDepth 100000 in
theorem eb_mm_lay_87 {K64 : Int → Int → Mem → Option Mem} (hK64 : ∀ (x1 : Int) (x2 : Int) (o3 : Option PV) (o4 : Option PV) (μ : Mem) (res : Mem), K64 x1 x2 μ = some res → G shM l D ad ca YX8_lay 64 [some (.inr 0), some (.inl x1), some (.inl x2), o3, o4] [] μ none res) {x1 : Int} {x2 : Int} {s0 : Int} {o3 : Option PV} {o4 : Option PV} {μ : Mem} {res : Mem} (h : mm_lay_87 K64 x1 x2 s0 μ = some res) : G shM l D ad ca YX8_lay 87 [some (.inr 0), some (.inl x1), some (.inl x2), o3, o4] [.inl s0] μ none res := by
  rw [mm_lay_87] at h
  refine G.istore_n (i := 3) dX8_lay_87 rfl (Nat.le_of_ble_eq_true rfl) ?_
  refine G.iconst dX8_lay_88 ki_0 ?_
  refine G.istore dX8_lay_89 (Nat.le_of_ble_eq_true rfl) ?_
  exact eb_mm_lay_91 hK64 _ _ _ _ _ _ _ h
set_option maxRecDepth 100000 in
theorem eb_mm_lay_64 : ∀ (n : Nat) (x1 : Int) (x2 : Int) (o3 : Option PV) (o4 : Option PV) (μ : Mem) (res : Mem), mm_lay_64 n x1 x2 μ = some res → G shM l D ad ca YX8_lay 64 [some (.inr 0), some (.inl x1), some (.inl x2), o3, o4] [] μ none res := by
  intro n
  induction n with
  | zero =>
    intro x1 x2 o3 o4 μ res h
    rw [mm_lay_64] at h
    cases h
  | succ n ih =>
    intro x1 x2 o3 o4 μ res h
    rw [mm_lay_64] at h
    refine G.iload_n (i := 2) dX8_lay_64 rfl rfl ?_
    refine G.sipush dX8_lay_65 ks_6561 ?_
    refine G.icmp_ge 130 dX8_lay_68 rfl (fun c => ?_) (fun c => ?_)
    · replace h := (if_pos c).symm.trans h
      exact eb_mm_lay_130  h
    · replace h := (if_neg c).symm.trans h
      refine G.aload_n (i := 0) dX8_lay_71 rfl rfl ?_
      refine G.getR ck8 shM_0 11 rfl (by decide) q849 dX8_lay_72 ?_
      refine G.iload_n (i := 2) dX8_lay_75 rfl rfl ?_
      obtain ⟨v4, hv, h⟩ := bd h
      obtain ⟨hb, rfl⟩ := aget_some hv
      refine G.iald shM_7 hb dX8_lay_76 ?_
      refine G.bipush dX8_lay_77 kb_m5 ?_
      refine G.icmp_ne 86 dX8_lay_79 rfl (fun c => ?_) (fun c => ?_)
      · replace h := (if_neg c).symm.trans h
        refine G.iconst dX8_lay_86 ki_0 ?_
        exact eb_mm_lay_87 ih h
      · replace h := (if_pos c).symm.trans h
        refine G.iconst dX8_lay_82 ki_1 ?_
        refine G.goto 87 dX8_lay_83 rfl ?_
        exact eb_mm_lay_87 ih h
set_option maxRecDepth 100000 in
theorem eb_mm_lay_62 {x1 : Int} {o2 : Option PV} {o3 : Option PV} {o4 : Option PV} {μ : Mem} {res : Mem} (h : mm_lay_62 x1 μ = some res) : G shM l D ad ca YX8_lay 62 [some (.inr 0), some (.inl x1), o2, o3, o4] [] μ none res := by
  rw [mm_lay_62] at h
  refine G.iconst dX8_lay_62 ki_0 ?_
  refine G.istore_n (i := 2) dX8_lay_63 rfl (Nat.le_of_ble_eq_true rfl) ?_
  exact eb_mm_lay_64  _ _ _ _ _ _ _ h
set_option maxRecDepth 100000 in
theorem eb_mm_lay_56 {K22 : Int → Int → Mem → Option Mem} (hK22 : ∀ (x1 : Int) (x2 : Int) (o3 : Option PV) (o4 : Option PV) (μ : Mem) (res : Mem), K22 x1 x2 μ = some res → G shM l D ad ca YX8_lay 22 [some (.inr 0), some (.inl x1), some (.inl x2), o3, o4] [] μ none res) {x1 : Int} {x2 : Int} {o3 : Option PV} {o4 : Option PV} {μ : Mem} {res : Mem} (h : mm_lay_56 K22 x1 x2 μ = some res) : G shM l D ad ca YX8_lay 56 [some (.inr 0), some (.inl x1), some (.inl x2), o3, o4] [] μ none res := by
  rw [mm_lay_56] at h
  replace h := bnd_mp h
  refine G.iinc dX8_lay_56 rfl (Nat.le_of_ble_eq_true rfl) ?_
  refine G.goto 22 dX8_lay_59 rfl ?_
  exact hK22 _ _ _ _ _ _ h
set_option maxRecDepth 100000 in
theorem eb_mm_lay_22 : ∀ (n : Nat) (x1 : Int) (x2 : Int) (o3 : Option PV) (o4 : Option PV) (μ : Mem) (res : Mem), mm_lay_22 n x1 x2 μ = some res → G shM l D ad ca YX8_lay 22 [some (.inr 0), some (.inl x1), some (.inl x2), o3, o4] [] μ none res := by
  intro n
  induction n with
  | zero =>
    intro x1 x2 o3 o4 μ res h
    rw [mm_lay_22] at h
    cases h
  | succ n ih =>
    intro x1 x2 o3 o4 μ res h
    rw [mm_lay_22] at h
    refine G.iload_n (i := 2) dX8_lay_22 rfl rfl ?_
    refine G.sipush dX8_lay_23 ks_6561 ?_
    refine G.icmp_ge 62 dX8_lay_26 rfl (fun c => ?_) (fun c => ?_)
    · replace h := (if_pos c).symm.trans h
      exact eb_mm_lay_62  h
    · replace h := (if_neg c).symm.trans h
      refine G.aload_n (i := 0) dX8_lay_29 rfl rfl ?_
      refine G.getR ck8 shM_0 11 rfl (by decide) q849 dX8_lay_30 ?_
      refine G.iload_n (i := 2) dX8_lay_33 rfl rfl ?_
      refine G.bipush dX8_lay_34 kb_m5 ?_
      obtain ⟨μ10, hv, h⟩ := bd h
      obtain ⟨hb, rfl⟩ := aput_some hv
      refine G.iast shM_7 hb dX8_lay_36 ?_
      refine G.aload_n (i := 0) dX8_lay_37 rfl rfl ?_
      refine G.getR ck8 shM_0 10 rfl (by decide) q848 dX8_lay_38 ?_
      refine G.iload_n (i := 2) dX8_lay_41 rfl rfl ?_
      obtain ⟨v11, hv, h⟩ := bd h
      obtain ⟨hb, rfl⟩ := aget_some hv
      refine G.zald shM_6 hb dX8_lay_42 ?_
      refine G.if_eq 56 dX8_lay_43 rfl (fun c => ?_) (fun c => ?_)
      · replace h := (if_pos c).symm.trans h
        exact eb_mm_lay_56 ih h
      · replace h := (if_neg c).symm.trans h
        refine G.aload_n (i := 0) dX8_lay_46 rfl rfl ?_
        refine G.getR ck8 shM_0 12 rfl (by decide) q850 dX8_lay_47 ?_
        refine G.iload_n (i := 1) dX8_lay_50 rfl rfl ?_
        refine G.iload_n (i := 2) dX8_lay_51 rfl rfl ?_
        obtain ⟨μ13, hv, h⟩ := bd h
        obtain ⟨hb, rfl⟩ := aput_some hv
        refine G.iast shM_8 hb dX8_lay_52 ?_
        replace h := bnd_mp h
        refine G.iinc dX8_lay_53 rfl (Nat.le_of_ble_eq_true rfl) ?_
        exact eb_mm_lay_56 ih h
set_option maxRecDepth 100000 in
theorem e_mm_lay {μ : Mem} {res : Mem} (h : mm_lay μ = some res) : GM shM l D ad ca YX8_lay [.inr 0] μ none res := by
  refine GM.of (L := [some (.inr 0), none, none, none, none]) (by decide +kernel) rfl (Nat.le_of_ble_eq_true rfl) ?_
  rw [mm_lay] at h
  refine G.aload_n (i := 0) dX8_lay_0 rfl rfl ?_
  refine G.getI ck8 shM_0 8 rfl (by decide) q846 dX8_lay_1 ?_
  refine G.if_eq 8 dX8_lay_4 rfl (fun c => ?_) (fun c => ?_)
  · replace h := (if_pos c).symm.trans h
    refine G.aload_n (i := 0) dX8_lay_8 rfl rfl ?_
    refine G.aload_n (i := 0) dX8_lay_9 rfl rfl ?_
    refine G.bipush dX8_lay_10 kb_m5 ?_
    obtain ⟨p1, hv, h⟩ := bd h
    refine G.callV (e_mm_layBland hv) cs_X8_lay_X8_layBland ck8 shM_0 rfl rfl (Nat.le_of_ble_eq_true rfl) q981 q983 q42 dX8_lay_12 ?_
    replace h := bnd_mp h
    refine G.putI ck8 shM_0 9 rfl (by decide) q847 rfl rfl rfl dX8_lay_15 ?_
    refine G.iconst dX8_lay_18 ki_0 ?_
    refine G.istore_n (i := 1) dX8_lay_19 rfl (Nat.le_of_ble_eq_true rfl) ?_
    refine G.iconst dX8_lay_20 ki_0 ?_
    refine G.istore_n (i := 2) dX8_lay_21 rfl (Nat.le_of_ble_eq_true rfl) ?_
    exact eb_mm_lay_22  _ _ _ _ _ _ _ h
  · replace h := (if_neg c).symm.trans h
    cases h
    exact G.vret dX8_lay_7 rfl
set_option maxRecDepth 100000 in
theorem e_mm_taste {a1 : Int} {μ : Mem} {res : (Int × Mem)} (h : mm_taste a1 μ = some res) : GM shM l D ad ca YX8_taste [.inr 0, .inl a1] μ (some (.inl res.1)) res.2 := by
  refine GM.of (L := [some (.inr 0), some (.inl a1)]) (by decide +kernel) rfl (Nat.le_of_ble_eq_true rfl) ?_
  rw [mm_taste] at h
  refine G.aload_n (i := 0) dX8_taste_0 rfl rfl ?_
  obtain ⟨μ1, hv, h⟩ := bd h
  refine G.callV (e_mm_lay hv) cs_X8_taste_X8_lay ck8 shM_0 rfl rfl (Nat.le_of_ble_eq_true rfl) q977 q979 q41 dX8_taste_1 ?_
  refine G.aload_n (i := 0) dX8_taste_4 rfl rfl ?_
  refine G.getR ck8 shM_0 11 rfl (by decide) q849 dX8_taste_5 ?_
  refine G.iload_n (i := 1) dX8_taste_8 rfl rfl ?_
  obtain ⟨v2, hv, h⟩ := bd h
  obtain ⟨hb, rfl⟩ := aget_some hv
  refine G.iald shM_7 hb dX8_taste_9 ?_
  cases h
  exact G.iret dX8_taste_10 rfl
set_option maxRecDepth 100000 in
theorem eb_mm_alike_14 {o1 : Option PV} {o2 : Option PV} {o3 : Option PV} {o4 : Option PV} {μ : Mem} {res : (Int × Mem)} (h : mm_alike_14 μ = some res) : G shM l D ad ca YX8_alike 14 [some (.inr 0), o1, o2, o3, o4] [] μ (some (.inl res.1)) res.2 := by
  rw [mm_alike_14] at h
  refine G.bipush dX8_alike_14 kb_m2 ?_
  cases h
  exact G.iret dX8_alike_16 rfl
set_option maxRecDepth 100000 in
theorem eb_mm_alike_75 {s0 : Int} {o1 : Option PV} {o2 : Option PV} {o3 : Option PV} {o4 : Option PV} {μ : Mem} {res : (Int × Mem)} (h : mm_alike_75 s0 μ = some res) : G shM l D ad ca YX8_alike 75 [some (.inr 0), o1, o2, o3, o4] [.inl s0] μ (some (.inl res.1)) res.2 := by
  rw [mm_alike_75] at h
  cases h
  exact G.iret dX8_alike_75 rfl
set_option maxRecDepth 100000 in
theorem eb_mm_alike_63 {s0 : Int} {o1 : Option PV} {o2 : Option PV} {o3 : Option PV} {o4 : Option PV} {μ : Mem} {res : (Int × Mem)} (h : mm_alike_63 s0 μ = some res) : G shM l D ad ca YX8_alike 63 [some (.inr 0), o1, o2, o3, o4] [.inl s0] μ (some (.inl res.1)) res.2 := by
  rw [mm_alike_63] at h
  refine G.istore dX8_alike_63 (Nat.le_of_ble_eq_true rfl) ?_
  refine G.iload dX8_alike_65 rfl ?_
  refine G.if_eq 74 dX8_alike_67 rfl (fun c => ?_) (fun c => ?_)
  · replace h := (if_pos c).symm.trans h
    refine G.iconst dX8_alike_74 ki_0 ?_
    exact eb_mm_alike_75  h
  · replace h := (if_neg c).symm.trans h
    refine G.iconst dX8_alike_70 ki_1 ?_
    refine G.goto 75 dX8_alike_71 rfl ?_
    exact eb_mm_alike_75  h
set_option maxRecDepth 100000 in
theorem e_mm_alike {a1 : Int} {a2 : Int} {a3 : Int} {μ : Mem} {res : (Int × Mem)} (h : mm_alike a1 a2 a3 μ = some res) : GM shM l D ad ca YX8_alike [.inr 0, .inl a1, .inl a2, .inl a3] μ (some (.inl res.1)) res.2 := by
  refine GM.of (L := [some (.inr 0), some (.inl a1), some (.inl a2), some (.inl a3), none]) (by decide +kernel) rfl (Nat.le_of_ble_eq_true rfl) ?_
  rw [mm_alike] at h
  refine G.iload_n (i := 1) dX8_alike_0 rfl rfl ?_
  obtain ⟨v1, hv, h⟩ := bd h
  refine G.callS (e_mm_isMix hv) cs_X8_alike_X8_isMix rfl (Nat.le_of_ble_eq_true rfl) q901 q902 dX8_alike_1 ?_
  refine G.if_eq 14 dX8_alike_4 rfl (fun c => ?_) (fun c => ?_)
  · replace h := (if_pos c).symm.trans h
    exact eb_mm_alike_14  h
  · replace h := (if_neg c).symm.trans h
    refine G.iload_n (i := 2) dX8_alike_7 rfl rfl ?_
    obtain ⟨v2, hv, h⟩ := bd h
    refine G.callS (e_mm_isMix hv) cs_X8_alike_X8_isMix rfl (Nat.le_of_ble_eq_true rfl) q901 q902 dX8_alike_8 ?_
    refine G.if_ne 17 dX8_alike_11 rfl (fun c => ?_) (fun c => ?_)
    · replace h := (if_neg c).symm.trans h
      refine G.iload_n (i := 3) dX8_alike_17 rfl rfl ?_
      refine G.if_eq 45 dX8_alike_18 rfl (fun c => ?_) (fun c => ?_)
      · replace h := (if_pos c).symm.trans h
        refine G.aload_n (i := 0) dX8_alike_45 rfl rfl ?_
        refine G.iload_n (i := 1) dX8_alike_46 rfl rfl ?_
        obtain ⟨p3, hv, h⟩ := bd h
        refine G.callV (e_mm_taste hv) cs_X8_alike_X8_taste ck8 shM_0 rfl rfl (Nat.le_of_ble_eq_true rfl) q1013 q1015 q46 dX8_alike_47 ?_
        refine G.aload_n (i := 0) dX8_alike_50 rfl rfl ?_
        refine G.iload_n (i := 2) dX8_alike_51 rfl rfl ?_
        obtain ⟨p4, hv, h⟩ := bd h
        refine G.callV (e_mm_taste hv) cs_X8_alike_X8_taste ck8 shM_0 rfl rfl (Nat.le_of_ble_eq_true rfl) q1013 q1015 q46 dX8_alike_52 ?_
        refine G.icmp_ne 62 dX8_alike_55 rfl (fun c => ?_) (fun c => ?_)
        · replace h := (if_neg c).symm.trans h
          refine G.iconst dX8_alike_62 ki_0 ?_
          exact eb_mm_alike_63  h
        · replace h := (if_pos c).symm.trans h
          refine G.iconst dX8_alike_58 ki_1 ?_
          refine G.goto 63 dX8_alike_59 rfl ?_
          exact eb_mm_alike_63  h
      · replace h := (if_neg c).symm.trans h
        refine G.aload_n (i := 0) dX8_alike_21 rfl rfl ?_
        refine G.iload_n (i := 2) dX8_alike_22 rfl rfl ?_
        refine G.iload_n (i := 1) dX8_alike_23 rfl rfl ?_
        refine G.iload_n (i := 1) dX8_alike_24 rfl rfl ?_
        obtain ⟨v5, hv, h⟩ := bd h
        refine G.callS (e_mm_mixed hv) cs_X8_alike_X8_mixed rfl (Nat.le_of_ble_eq_true rfl) q946 q947 dX8_alike_25 ?_
        obtain ⟨v6, hv, h⟩ := bd h
        refine G.callS (e_mm_mixed hv) cs_X8_alike_X8_mixed rfl (Nat.le_of_ble_eq_true rfl) q946 q947 dX8_alike_28 ?_
        obtain ⟨p7, hv, h⟩ := bd h
        refine G.callV (e_mm_taste hv) cs_X8_alike_X8_taste ck8 shM_0 rfl rfl (Nat.le_of_ble_eq_true rfl) q1013 q1015 q46 dX8_alike_31 ?_
        refine G.if_ne 41 dX8_alike_34 rfl (fun c => ?_) (fun c => ?_)
        · replace h := (if_neg c).symm.trans h
          refine G.iconst dX8_alike_41 ki_0 ?_
          refine G.goto 63 dX8_alike_42 rfl ?_
          exact eb_mm_alike_63  h
        · replace h := (if_pos c).symm.trans h
          refine G.iconst dX8_alike_37 ki_1 ?_
          refine G.goto 63 dX8_alike_38 rfl ?_
          exact eb_mm_alike_63  h
    · replace h := (if_pos c).symm.trans h
      exact eb_mm_alike_14  h
set_option maxRecDepth 100000 in
theorem e_mm_clearText {μ : Mem} {res : (Int × Mem)} (h : mm_clearText μ = some res) : GM shM l D ad ca YX8_clearText [.inr 0] μ (some (.inl res.1)) res.2 := by
  refine GM.of (L := [some (.inr 0), none]) (by decide +kernel) rfl (Nat.le_of_ble_eq_true rfl) ?_
  rw [mm_clearText] at h
  refine G.aload_n (i := 0) dX8_clearText_0 rfl rfl ?_
  refine G.getI ck8 shM_0 7 rfl (by decide) q845 dX8_clearText_1 ?_
  refine G.istore_n (i := 1) dX8_clearText_4 rfl (Nat.le_of_ble_eq_true rfl) ?_
  refine G.aload_n (i := 0) dX8_clearText_5 rfl rfl ?_
  refine G.iconst dX8_clearText_6 ki_0 ?_
  replace h := bnd_mp h
  refine G.putI ck8 shM_0 7 rfl (by decide) q845 rfl rfl rfl dX8_clearText_7 ?_
  refine G.iload_n (i := 1) dX8_clearText_10 rfl rfl ?_
  cases h
  exact G.iret dX8_clearText_11 rfl
set_option maxRecDepth 100000 in
theorem e_mm_mixIn {a1 : Int} {μ : Mem} {res : Int} (h : mm_mixIn a1 μ = some res) : GM shM l D ad ca YX8_mixIn [.inr 0, .inl a1] μ (some (.inl res)) μ := by
  refine GM.of (L := [some (.inr 0), some (.inl a1)]) (by decide +kernel) rfl (Nat.le_of_ble_eq_true rfl) ?_
  rw [mm_mixIn] at h
  refine G.aload_n (i := 0) dX8_mixIn_0 rfl rfl ?_
  refine G.getR ck8 shM_0 0 rfl (by decide) q838 dX8_mixIn_1 ?_
  refine G.bipush dX8_mixIn_4 kb_9 ?_
  refine G.iconst dX8_mixIn_6 ki_2 ?_
  refine G.iload_n (i := 1) dX8_mixIn_7 rfl rfl ?_
  refine G.imul dX8_mixIn_8 ?_
  refine G.iadd dX8_mixIn_9 ?_
  refine G.iconst dX8_mixIn_10 ki_1 ?_
  refine G.iadd dX8_mixIn_11 ?_
  obtain ⟨v1, hv, h⟩ := bd h
  obtain ⟨hb, rfl⟩ := aget_some hv
  refine G.iald shM_1 hb dX8_mixIn_12 ?_
  cases h
  exact G.iret dX8_mixIn_13 rfl
set_option maxRecDepth 100000 in
theorem eb_mm_units_21 {x1 : Int} {o0 : Option PV} {o2 : Option PV} {μ : Mem} {res : Int} (h : mm_units_21 x1 = some res) : G shM l D ad ca YX8_units 21 [o0, some (.inl x1), o2] [] μ (some (.inl res)) μ := by
  rw [mm_units_21] at h
  refine G.iload_n (i := 1) dX8_units_21 rfl rfl ?_
  cases h
  exact G.iret dX8_units_22 rfl
set_option maxRecDepth 100000 in
theorem eb_mm_units_4 : ∀ (n : Nat) (x1 : Int) (x2 : Int) (o0 : Option PV) (μ : Mem) (res : Int), mm_units_4 n x1 x2 = some res → G shM l D ad ca YX8_units 4 [o0, some (.inl x1), some (.inl x2)] [] μ (some (.inl res)) μ := by
  intro n
  induction n with
  | zero =>
    intro x1 x2 o0 μ res h
    rw [mm_units_4] at h
    cases h
  | succ n ih =>
    intro x1 x2 o0 μ res h
    rw [mm_units_4] at h
    refine G.iload_n (i := 2) dX8_units_4 rfl rfl ?_
    refine G.if_le 21 dX8_units_5 rfl (fun c => ?_) (fun c => ?_)
    · replace h := (if_pos c).symm.trans h
      exact eb_mm_units_21  h
    · replace h := (if_neg c).symm.trans h
      refine G.iload_n (i := 1) dX8_units_8 rfl rfl ?_
      refine G.iload_n (i := 2) dX8_units_9 rfl rfl ?_
      refine G.iconst dX8_units_10 ki_3 ?_
      refine G.irem dX8_units_11 (by decide) ?_
      refine G.iadd dX8_units_12 ?_
      replace h := bnd_mp h
      refine G.istore_n (i := 1) dX8_units_13 rfl (Nat.le_of_ble_eq_true rfl) ?_
      refine G.iload_n (i := 2) dX8_units_14 rfl rfl ?_
      refine G.iconst dX8_units_15 ki_3 ?_
      refine G.idiv dX8_units_16 (by decide) ?_
      replace h := bnd_mp h
      refine G.istore_n (i := 2) dX8_units_17 rfl (Nat.le_of_ble_eq_true rfl) ?_
      refine G.goto 4 dX8_units_18 rfl ?_
      exact ih _ _ _ _ _ h
set_option maxRecDepth 100000 in
theorem e_mm_units {a1 : Int} {μ : Mem} {res : Int} (h : mm_units a1 = some res) : GM shM l D ad ca YX8_units [.inl a1] μ (some (.inl res)) μ := by
  refine GM.of (L := [some (.inl a1), none, none]) (by decide +kernel) rfl (Nat.le_of_ble_eq_true rfl) ?_
  rw [mm_units] at h
  refine G.iconst dX8_units_0 ki_0 ?_
  refine G.istore_n (i := 1) dX8_units_1 rfl (Nat.le_of_ble_eq_true rfl) ?_
  refine G.iload_n (i := 0) dX8_units_2 rfl rfl ?_
  refine G.istore_n (i := 2) dX8_units_3 rfl (Nat.le_of_ble_eq_true rfl) ?_
  exact eb_mm_units_4  _ _ _ _ _ _ h
set_option maxRecDepth 100000 in
theorem eb_mm_unitsInJars_32 {x1 : Int} {o2 : Option PV} {μ : Mem} {res : Int} (h : mm_unitsInJars_32 x1 μ = some res) : G shM l D ad ca YX8_unitsInJars 32 [some (.inr 0), some (.inl x1), o2] [] μ (some (.inl res)) μ := by
  rw [mm_unitsInJars_32] at h
  refine G.iload_n (i := 1) dX8_unitsInJars_32 rfl rfl ?_
  cases h
  exact G.iret dX8_unitsInJars_33 rfl
set_option maxRecDepth 100000 in
theorem eb_mm_unitsInJars_4 : ∀ (n : Nat) (x1 : Int) (x2 : Int) (μ : Mem) (res : Int), mm_unitsInJars_4 n x1 x2 μ = some res → G shM l D ad ca YX8_unitsInJars 4 [some (.inr 0), some (.inl x1), some (.inl x2)] [] μ (some (.inl res)) μ := by
  intro n
  induction n with
  | zero =>
    intro x1 x2 μ res h
    rw [mm_unitsInJars_4] at h
    cases h
  | succ n ih =>
    intro x1 x2 μ res h
    rw [mm_unitsInJars_4] at h
    refine G.iload_n (i := 2) dX8_unitsInJars_4 rfl rfl ?_
    refine G.aload_n (i := 0) dX8_unitsInJars_5 rfl rfl ?_
    refine G.getR ck8 shM_0 0 rfl (by decide) q838 dX8_unitsInJars_6 ?_
    refine G.bipush dX8_unitsInJars_9 kb_8 ?_
    refine G.ialdc 8 shM_1 rfl (by decide) dX8_unitsInJars_11 ?_
    refine G.icmp_ge 32 dX8_unitsInJars_12 rfl (fun c => ?_) (fun c => ?_)
    · replace h := (if_pos c).symm.trans h
      exact eb_mm_unitsInJars_32  h
    · replace h := (if_neg c).symm.trans h
      refine G.iload_n (i := 1) dX8_unitsInJars_15 rfl rfl ?_
      refine G.aload_n (i := 0) dX8_unitsInJars_16 rfl rfl ?_
      refine G.iload_n (i := 2) dX8_unitsInJars_17 rfl rfl ?_
      obtain ⟨v1, hv, h⟩ := bd h
      refine G.callV (e_mm_mixIn hv) cs_X8_unitsInJars_X8_mixIn ck8 shM_0 rfl rfl (Nat.le_of_ble_eq_true rfl) q942 q944 q36 dX8_unitsInJars_18 ?_
      obtain ⟨v2, hv, h⟩ := bd h
      refine G.callS (e_mm_units hv) cs_X8_unitsInJars_X8_units rfl (Nat.le_of_ble_eq_true rfl) q911 q912 dX8_unitsInJars_21 ?_
      refine G.iadd dX8_unitsInJars_24 ?_
      replace h := bnd_mp h
      refine G.istore_n (i := 1) dX8_unitsInJars_25 rfl (Nat.le_of_ble_eq_true rfl) ?_
      replace h := bnd_mp h
      refine G.iinc dX8_unitsInJars_26 rfl (Nat.le_of_ble_eq_true rfl) ?_
      refine G.goto 4 dX8_unitsInJars_29 rfl ?_
      exact ih _ _ _ _ h
set_option maxRecDepth 100000 in
theorem e_mm_unitsInJars {μ : Mem} {res : Int} (h : mm_unitsInJars μ = some res) : GM shM l D ad ca YX8_unitsInJars [.inr 0] μ (some (.inl res)) μ := by
  refine GM.of (L := [some (.inr 0), none, none]) (by decide +kernel) rfl (Nat.le_of_ble_eq_true rfl) ?_
  rw [mm_unitsInJars] at h
  refine G.iconst dX8_unitsInJars_0 ki_0 ?_
  refine G.istore_n (i := 1) dX8_unitsInJars_1 rfl (Nat.le_of_ble_eq_true rfl) ?_
  refine G.iconst dX8_unitsInJars_2 ki_0 ?_
  refine G.istore_n (i := 2) dX8_unitsInJars_3 rfl (Nat.le_of_ble_eq_true rfl) ?_
  exact eb_mm_unitsInJars_4  _ _ _ _ _ h
set_option maxRecDepth 100000 in
theorem eb_mm_nextShelf_58 {x2 : Int} {o1 : Option PV} {o3 : Option PV} {o4 : Option PV} {μ : Mem} {res : (Int × Mem)} (h : mm_nextShelf_58 x2 μ = some res) : G shM l D ad ca YX8_nextShelf 58 [some (.inr 0), o1, some (.inl x2), o3, o4] [] μ (some (.inl res.1)) res.2 := by
  rw [mm_nextShelf_58] at h
  refine G.iload_n (i := 2) dX8_nextShelf_58 rfl rfl ?_
  cases h
  exact G.iret dX8_nextShelf_59 rfl
set_option maxRecDepth 100000 in
theorem eb_mm_nextShelf_51 {K5 : Int → Int → Int → Mem → Option (Int × Mem)} (hK5 : ∀ (x1 : Int) (x2 : Int) (x3 : Int) (o4 : Option PV) (μ : Mem) (res : (Int × Mem)), K5 x1 x2 x3 μ = some res → G shM l D ad ca YX8_nextShelf 5 [some (.inr 0), some (.inl x1), some (.inl x2), some (.inl x3), o4] [] μ (some (.inl res.1)) res.2) {x1 : Int} {x3 : Int} {s0 : Int} {o2 : Option PV} {o4 : Option PV} {μ : Mem} {res : (Int × Mem)} (h : mm_nextShelf_51 K5 x1 x3 s0 μ = some res) : G shM l D ad ca YX8_nextShelf 51 [some (.inr 0), some (.inl x1), o2, some (.inl x3), o4] [.inl s0] μ (some (.inl res.1)) res.2 := by
  rw [mm_nextShelf_51] at h
  refine G.istore_n (i := 2) dX8_nextShelf_51 rfl (Nat.le_of_ble_eq_true rfl) ?_
  replace h := bnd_mp h
  refine G.iinc dX8_nextShelf_52 rfl (Nat.le_of_ble_eq_true rfl) ?_
  refine G.goto 5 dX8_nextShelf_55 rfl ?_
  exact hK5 _ _ _ _ _ _ h
set_option maxRecDepth 100000 in
theorem eb_mm_nextShelf_50 {K5 : Int → Int → Int → Mem → Option (Int × Mem)} (hK5 : ∀ (x1 : Int) (x2 : Int) (x3 : Int) (o4 : Option PV) (μ : Mem) (res : (Int × Mem)), K5 x1 x2 x3 μ = some res → G shM l D ad ca YX8_nextShelf 5 [some (.inr 0), some (.inl x1), some (.inl x2), some (.inl x3), o4] [] μ (some (.inl res.1)) res.2) {x1 : Int} {x2 : Int} {x3 : Int} {o4 : Option PV} {μ : Mem} {res : (Int × Mem)} (h : mm_nextShelf_50 K5 x1 x2 x3 μ = some res) : G shM l D ad ca YX8_nextShelf 50 [some (.inr 0), some (.inl x1), some (.inl x2), some (.inl x3), o4] [] μ (some (.inl res.1)) res.2 := by
  rw [mm_nextShelf_50] at h
  refine G.iload_n (i := 2) dX8_nextShelf_50 rfl rfl ?_
  exact eb_mm_nextShelf_51 hK5 h
set_option maxRecDepth 100000 in
theorem eb_mm_nextShelf_45 {K5 : Int → Int → Int → Mem → Option (Int × Mem)} (hK5 : ∀ (x1 : Int) (x2 : Int) (x3 : Int) (o4 : Option PV) (μ : Mem) (res : (Int × Mem)), K5 x1 x2 x3 μ = some res → G shM l D ad ca YX8_nextShelf 5 [some (.inr 0), some (.inl x1), some (.inl x2), some (.inl x3), o4] [] μ (some (.inl res.1)) res.2) {x1 : Int} {x3 : Int} {x4 : Int} {o2 : Option PV} {μ : Mem} {res : (Int × Mem)} (h : mm_nextShelf_45 K5 x1 x3 x4 μ = some res) : G shM l D ad ca YX8_nextShelf 45 [some (.inr 0), some (.inl x1), o2, some (.inl x3), some (.inl x4)] [] μ (some (.inl res.1)) res.2 := by
  rw [mm_nextShelf_45] at h
  refine G.iload dX8_nextShelf_45 rfl ?_
  refine G.goto 51 dX8_nextShelf_47 rfl ?_
  exact eb_mm_nextShelf_51 hK5 h
set_option maxRecDepth 100000 in
theorem eb_mm_nextShelf_5 : ∀ (n : Nat) (x1 : Int) (x2 : Int) (x3 : Int) (o4 : Option PV) (μ : Mem) (res : (Int × Mem)), mm_nextShelf_5 n x1 x2 x3 μ = some res → G shM l D ad ca YX8_nextShelf 5 [some (.inr 0), some (.inl x1), some (.inl x2), some (.inl x3), o4] [] μ (some (.inl res.1)) res.2 := by
  intro n
  induction n with
  | zero =>
    intro x1 x2 x3 o4 μ res h
    rw [mm_nextShelf_5] at h
    cases h
  | succ n ih =>
    intro x1 x2 x3 o4 μ res h
    rw [mm_nextShelf_5] at h
    refine G.iload_n (i := 3) dX8_nextShelf_5 rfl rfl ?_
    refine G.aload_n (i := 0) dX8_nextShelf_6 rfl rfl ?_
    refine G.getR ck8 shM_0 0 rfl (by decide) q838 dX8_nextShelf_7 ?_
    refine G.bipush dX8_nextShelf_10 kb_8 ?_
    refine G.ialdc 8 shM_1 rfl (by decide) dX8_nextShelf_12 ?_
    refine G.icmp_ge 58 dX8_nextShelf_13 rfl (fun c => ?_) (fun c => ?_)
    · replace h := (if_pos c).symm.trans h
      exact eb_mm_nextShelf_58  h
    · replace h := (if_neg c).symm.trans h
      refine G.aload_n (i := 0) dX8_nextShelf_16 rfl rfl ?_
      refine G.aload_n (i := 0) dX8_nextShelf_17 rfl rfl ?_
      refine G.iload_n (i := 3) dX8_nextShelf_18 rfl rfl ?_
      obtain ⟨v1, hv, h⟩ := bd h
      refine G.callV (e_mm_mixIn hv) cs_X8_nextShelf_X8_mixIn ck8 shM_0 rfl rfl (Nat.le_of_ble_eq_true rfl) q942 q944 q36 dX8_nextShelf_19 ?_
      obtain ⟨p2, hv, h⟩ := bd h
      refine G.callV (e_mm_taste hv) cs_X8_nextShelf_X8_taste ck8 shM_0 rfl rfl (Nat.le_of_ble_eq_true rfl) q1013 q1015 q46 dX8_nextShelf_22 ?_
      replace h := bnd_mp h
      refine G.istore dX8_nextShelf_25 (Nat.le_of_ble_eq_true rfl) ?_
      refine G.iload dX8_nextShelf_27 rfl ?_
      refine G.iload_n (i := 1) dX8_nextShelf_29 rfl rfl ?_
      refine G.icmp_le 50 dX8_nextShelf_30 rfl (fun c => ?_) (fun c => ?_)
      · replace h := (if_pos c).symm.trans h
        exact eb_mm_nextShelf_50 ih h
      · replace h := (if_neg c).symm.trans h
        refine G.iload_n (i := 2) dX8_nextShelf_33 rfl rfl ?_
        refine G.bipush dX8_nextShelf_34 kb_m5 ?_
        refine G.icmp_eq 45 dX8_nextShelf_36 rfl (fun c => ?_) (fun c => ?_)
        · replace h := (if_pos c).symm.trans h
          exact eb_mm_nextShelf_45 ih h
        · replace h := (if_neg c).symm.trans h
          refine G.iload dX8_nextShelf_39 rfl ?_
          refine G.iload_n (i := 2) dX8_nextShelf_41 rfl rfl ?_
          refine G.icmp_ge 50 dX8_nextShelf_42 rfl (fun c => ?_) (fun c => ?_)
          · replace h := (if_pos c).symm.trans h
            exact eb_mm_nextShelf_50 ih h
          · replace h := (if_neg c).symm.trans h
            exact eb_mm_nextShelf_45 ih h
set_option maxRecDepth 100000 in
theorem e_mm_nextShelf {a1 : Int} {μ : Mem} {res : (Int × Mem)} (h : mm_nextShelf a1 μ = some res) : GM shM l D ad ca YX8_nextShelf [.inr 0, .inl a1] μ (some (.inl res.1)) res.2 := by
  refine GM.of (L := [some (.inr 0), some (.inl a1), none, none, none]) (by decide +kernel) rfl (Nat.le_of_ble_eq_true rfl) ?_
  rw [mm_nextShelf] at h
  refine G.bipush dX8_nextShelf_0 kb_m5 ?_
  refine G.istore_n (i := 2) dX8_nextShelf_2 rfl (Nat.le_of_ble_eq_true rfl) ?_
  refine G.iconst dX8_nextShelf_3 ki_0 ?_
  refine G.istore_n (i := 3) dX8_nextShelf_4 rfl (Nat.le_of_ble_eq_true rfl) ?_
  exact eb_mm_nextShelf_5  _ _ _ _ _ _ _ h
set_option maxRecDepth 100000 in
theorem eb_mm_shelves_26 {x1 : Int} {o2 : Option PV} {μ : Mem} {res : (Int × Mem)} (h : mm_shelves_26 x1 μ = some res) : G shM l D ad ca YX8_shelves 26 [some (.inr 0), some (.inl x1), o2] [] μ (some (.inl res.1)) res.2 := by
  rw [mm_shelves_26] at h
  refine G.iload_n (i := 1) dX8_shelves_26 rfl rfl ?_
  cases h
  exact G.iret dX8_shelves_27 rfl
set_option maxRecDepth 100000 in
theorem eb_mm_shelves_8 : ∀ (n : Nat) (x1 : Int) (x2 : Int) (μ : Mem) (res : (Int × Mem)), mm_shelves_8 n x1 x2 μ = some res → G shM l D ad ca YX8_shelves 8 [some (.inr 0), some (.inl x1), some (.inl x2)] [] μ (some (.inl res.1)) res.2 := by
  intro n
  induction n with
  | zero =>
    intro x1 x2 μ res h
    rw [mm_shelves_8] at h
    cases h
  | succ n ih =>
    intro x1 x2 μ res h
    rw [mm_shelves_8] at h
    refine G.iload_n (i := 2) dX8_shelves_8 rfl rfl ?_
    refine G.bipush dX8_shelves_9 kb_m5 ?_
    refine G.icmp_eq 26 dX8_shelves_11 rfl (fun c => ?_) (fun c => ?_)
    · replace h := (if_pos c).symm.trans h
      exact eb_mm_shelves_26  h
    · replace h := (if_neg c).symm.trans h
      replace h := bnd_mp h
      refine G.iinc dX8_shelves_14 rfl (Nat.le_of_ble_eq_true rfl) ?_
      refine G.aload_n (i := 0) dX8_shelves_17 rfl rfl ?_
      refine G.iload_n (i := 2) dX8_shelves_18 rfl rfl ?_
      obtain ⟨p4, hv, h⟩ := bd h
      refine G.callV (e_mm_nextShelf hv) cs_X8_shelves_X8_nextShelf ck8 shM_0 rfl rfl (Nat.le_of_ble_eq_true rfl) q1116 q1118 q57 dX8_shelves_19 ?_
      replace h := bnd_mp h
      refine G.istore_n (i := 2) dX8_shelves_22 rfl (Nat.le_of_ble_eq_true rfl) ?_
      refine G.goto 8 dX8_shelves_23 rfl ?_
      exact ih _ _ _ _ h
set_option maxRecDepth 100000 in
theorem e_mm_shelves {μ : Mem} {res : (Int × Mem)} (h : mm_shelves μ = some res) : GM shM l D ad ca YX8_shelves [.inr 0] μ (some (.inl res.1)) res.2 := by
  refine GM.of (L := [some (.inr 0), none, none]) (by decide +kernel) rfl (Nat.le_of_ble_eq_true rfl) ?_
  rw [mm_shelves] at h
  refine G.iconst dX8_shelves_0 ki_0 ?_
  refine G.istore_n (i := 1) dX8_shelves_1 rfl (Nat.le_of_ble_eq_true rfl) ?_
  refine G.aload_n (i := 0) dX8_shelves_2 rfl rfl ?_
  refine G.iconst dX8_shelves_3 ki_m1 ?_
  obtain ⟨p1, hv, h⟩ := bd h
  refine G.callV (e_mm_nextShelf hv) cs_X8_shelves_X8_nextShelf ck8 shM_0 rfl rfl (Nat.le_of_ble_eq_true rfl) q1116 q1118 q57 dX8_shelves_4 ?_
  replace h := bnd_mp h
  refine G.istore_n (i := 2) dX8_shelves_7 rfl (Nat.le_of_ble_eq_true rfl) ?_
  exact eb_mm_shelves_8  _ _ _ _ _ h
set_option maxRecDepth 100000 in
theorem e_mm_strength {μ : Mem} {res : (Int × Mem)} (h : mm_strength μ = some res) : GM shM l D ad ca YX8_strength [.inr 0] μ (some (.inl res.1)) res.2 := by
  refine GM.of (L := [some (.inr 0)]) (by decide +kernel) rfl (Nat.le_of_ble_eq_true rfl) ?_
  rw [mm_strength] at h
  refine G.aload_n (i := 0) dX8_strength_0 rfl rfl ?_
  obtain ⟨μ1, hv, h⟩ := bd h
  refine G.callV (e_mm_lay hv) cs_X8_strength_X8_lay ck8 shM_0 rfl rfl (Nat.le_of_ble_eq_true rfl) q977 q979 q41 dX8_strength_1 ?_
  refine G.aload_n (i := 0) dX8_strength_4 rfl rfl ?_
  refine G.getI ck8 shM_0 9 rfl (by decide) q847 dX8_strength_5 ?_
  cases h
  exact G.iret dX8_strength_8 rfl
set_option maxRecDepth 100000 in
theorem eb_mm_power_19 {x1 : Int} {o0 : Option PV} {o2 : Option PV} {μ : Mem} {res : Int} (h : mm_power_19 x1 = some res) : G shM l D ad ca YX8_power 19 [o0, some (.inl x1), o2] [] μ (some (.inl res)) μ := by
  rw [mm_power_19] at h
  refine G.iload_n (i := 1) dX8_power_19 rfl rfl ?_
  cases h
  exact G.iret dX8_power_20 rfl
set_option maxRecDepth 100000 in
theorem eb_mm_power_4 : ∀ (n : Nat) (x0 : Int) (x1 : Int) (x2 : Int) (μ : Mem) (res : Int), mm_power_4 n x0 x1 x2 = some res → G shM l D ad ca YX8_power 4 [some (.inl x0), some (.inl x1), some (.inl x2)] [] μ (some (.inl res)) μ := by
  intro n
  induction n with
  | zero =>
    intro x0 x1 x2 μ res h
    rw [mm_power_4] at h
    cases h
  | succ n ih =>
    intro x0 x1 x2 μ res h
    rw [mm_power_4] at h
    refine G.iload_n (i := 2) dX8_power_4 rfl rfl ?_
    refine G.iload_n (i := 0) dX8_power_5 rfl rfl ?_
    refine G.icmp_ge 19 dX8_power_6 rfl (fun c => ?_) (fun c => ?_)
    · replace h := (if_pos c).symm.trans h
      exact eb_mm_power_19  h
    · replace h := (if_neg c).symm.trans h
      refine G.iload_n (i := 1) dX8_power_9 rfl rfl ?_
      refine G.iconst dX8_power_10 ki_3 ?_
      refine G.imul dX8_power_11 ?_
      replace h := bnd_mp h
      refine G.istore_n (i := 1) dX8_power_12 rfl (Nat.le_of_ble_eq_true rfl) ?_
      replace h := bnd_mp h
      refine G.iinc dX8_power_13 rfl (Nat.le_of_ble_eq_true rfl) ?_
      refine G.goto 4 dX8_power_16 rfl ?_
      exact ih _ _ _ _ _ h
set_option maxRecDepth 100000 in
theorem e_mm_power {a1 : Int} {μ : Mem} {res : Int} (h : mm_power a1 = some res) : GM shM l D ad ca YX8_power [.inl a1] μ (some (.inl res)) μ := by
  refine GM.of (L := [some (.inl a1), none, none]) (by decide +kernel) rfl (Nat.le_of_ble_eq_true rfl) ?_
  rw [mm_power] at h
  refine G.iconst dX8_power_0 ki_1 ?_
  refine G.istore_n (i := 1) dX8_power_1 rfl (Nat.le_of_ble_eq_true rfl) ?_
  refine G.iconst dX8_power_2 ki_0 ?_
  refine G.istore_n (i := 2) dX8_power_3 rfl (Nat.le_of_ble_eq_true rfl) ?_
  exact eb_mm_power_4  _ _ _ _ _ _ h
set_option maxRecDepth 100000 in
theorem eb_mm_count_141 {x1 : Int} {μ : Mem} {res : (Int × Mem)} (h : mm_count_141 x1 μ = some res) : G shM l D ad ca YX8_count 141 [some (.inr 0), some (.inl x1)] [] μ (some (.inl res.1)) res.2 := by
  rw [mm_count_141] at h
  refine G.aload_n (i := 0) dX8_count_141 rfl rfl ?_
  refine G.getR ck8 shM_0 0 rfl (by decide) q838 dX8_count_142 ?_
  refine G.bipush dX8_count_145 kb_52 ?_
  refine G.iload_n (i := 1) dX8_count_147 rfl rfl ?_
  refine G.iadd dX8_count_148 ?_
  refine G.bipush dX8_count_149 kb_7 ?_
  refine G.isub dX8_count_151 ?_
  obtain ⟨v7, hv, h⟩ := bd h
  obtain ⟨hb, rfl⟩ := aget_some hv
  refine G.iald shM_1 hb dX8_count_152 ?_
  cases h
  exact G.iret dX8_count_153 rfl
set_option maxRecDepth 100000 in
theorem eb_mm_count_159 {x1 : Int} {μ : Mem} {res : (Int × Mem)} (h : mm_count_159 x1 μ = some res) : G shM l D ad ca YX8_count 159 [some (.inr 0), some (.inl x1)] [] μ (some (.inl res.1)) res.2 := by
  rw [mm_count_159] at h
  refine G.aload_n (i := 0) dX8_count_159 rfl rfl ?_
  refine G.getR ck8 shM_0 0 rfl (by decide) q838 dX8_count_160 ?_
  refine G.bipush dX8_count_163 kb_56 ?_
  refine G.iload_n (i := 1) dX8_count_165 rfl rfl ?_
  refine G.iadd dX8_count_166 ?_
  refine G.bipush dX8_count_167 kb_12 ?_
  refine G.isub dX8_count_169 ?_
  obtain ⟨v9, hv, h⟩ := bd h
  obtain ⟨hb, rfl⟩ := aget_some hv
  refine G.iald shM_1 hb dX8_count_170 ?_
  cases h
  exact G.iret dX8_count_171 rfl
set_option maxRecDepth 100000 in
theorem e_mm_count {a1 : Int} {μ : Mem} {res : (Int × Mem)} (h : mm_count a1 μ = some res) : GM shM l D ad ca YX8_count [.inr 0, .inl a1] μ (some (.inl res.1)) res.2 := by
  refine GM.of (L := [some (.inr 0), some (.inl a1)]) (by decide +kernel) rfl (Nat.le_of_ble_eq_true rfl) ?_
  rw [mm_count] at h
  refine G.iload_n (i := 1) dX8_count_0 rfl rfl ?_
  refine G.tsCase 0 88 dX8_count_1 (by decide) (by decide) rfl rfl (fun c0 => ?_) (fun c0 => ?_)
  · replace h := (if_pos c0).symm.trans h
    refine G.aload_n (i := 0) dX8_count_88 rfl rfl ?_
    refine G.getR ck8 shM_0 0 rfl (by decide) q838 dX8_count_89 ?_
    refine G.bipush dX8_count_92 kb_8 ?_
    refine G.ialdc 8 shM_1 rfl (by decide) dX8_count_94 ?_
    cases h
    exact G.iret dX8_count_95 rfl
  replace h := (if_neg c0).symm.trans h
  refine G.tsCase 1 96 dX8_count_1 (by decide) (by decide) rfl rfl (fun c1 => ?_) (fun c1 => ?_)
  · replace h := (if_pos c1).symm.trans h
    refine G.aload_n (i := 0) dX8_count_96 rfl rfl ?_
    refine G.getR ck8 shM_0 0 rfl (by decide) q838 dX8_count_97 ?_
    refine G.bipush dX8_count_100 kb_34 ?_
    refine G.ialdc 34 shM_1 rfl (by decide) dX8_count_102 ?_
    cases h
    exact G.iret dX8_count_103 rfl
  replace h := (if_neg c1).symm.trans h
  refine G.tsCase 2 104 dX8_count_1 (by decide) (by decide) rfl rfl (fun c2 => ?_) (fun c2 => ?_)
  · replace h := (if_pos c2).symm.trans h
    refine G.aload_n (i := 0) dX8_count_104 rfl rfl ?_
    obtain ⟨p1, hv, h⟩ := bd h
    refine G.callV (e_mm_strength hv) cs_X8_count_X8_strength ck8 shM_0 rfl rfl (Nat.le_of_ble_eq_true rfl) q973 q975 q40 dX8_count_105 ?_
    cases h
    exact G.iret dX8_count_108 rfl
  replace h := (if_neg c2).symm.trans h
  refine G.tsCase 3 109 dX8_count_1 (by decide) (by decide) rfl rfl (fun c3 => ?_) (fun c3 => ?_)
  · replace h := (if_pos c3).symm.trans h
    refine G.aload_n (i := 0) dX8_count_109 rfl rfl ?_
    obtain ⟨p2, hv, h⟩ := bd h
    refine G.callV (e_mm_strength hv) cs_X8_count_X8_strength ck8 shM_0 rfl rfl (Nat.le_of_ble_eq_true rfl) q973 q975 q40 dX8_count_110 ?_
    obtain ⟨v3, hv, h⟩ := bd h
    refine G.callS (e_mm_power hv) cs_X8_count_X8_power rfl (Nat.le_of_ble_eq_true rfl) q1053 q1054 dX8_count_113 ?_
    cases h
    exact G.iret dX8_count_116 rfl
  replace h := (if_neg c3).symm.trans h
  refine G.tsCase 4 117 dX8_count_1 (by decide) (by decide) rfl rfl (fun c4 => ?_) (fun c4 => ?_)
  · replace h := (if_pos c4).symm.trans h
    refine G.bipush dX8_count_117 kb_8 ?_
    refine G.aload_n (i := 0) dX8_count_119 rfl rfl ?_
    obtain ⟨p4, hv, h⟩ := bd h
    refine G.callV (e_mm_strength hv) cs_X8_count_X8_strength ck8 shM_0 rfl rfl (Nat.le_of_ble_eq_true rfl) q973 q975 q40 dX8_count_120 ?_
    refine G.isub dX8_count_123 ?_
    obtain ⟨v5, hv, h⟩ := bd h
    refine G.callS (e_mm_power hv) cs_X8_count_X8_power rfl (Nat.le_of_ble_eq_true rfl) q1053 q1054 dX8_count_124 ?_
    cases h
    exact G.iret dX8_count_127 rfl
  replace h := (if_neg c4).symm.trans h
  refine G.tsCase 5 128 dX8_count_1 (by decide) (by decide) rfl rfl (fun c5 => ?_) (fun c5 => ?_)
  · replace h := (if_pos c5).symm.trans h
    refine G.aload_n (i := 0) dX8_count_128 rfl rfl ?_
    obtain ⟨p6, hv, h⟩ := bd h
    refine G.callV (e_mm_shelves hv) cs_X8_count_X8_shelves ck8 shM_0 rfl rfl (Nat.le_of_ble_eq_true rfl) q1128 q1130 q58 dX8_count_129 ?_
    cases h
    exact G.iret dX8_count_132 rfl
  replace h := (if_neg c5).symm.trans h
  refine G.tsCase 6 133 dX8_count_1 (by decide) (by decide) rfl rfl (fun c6 => ?_) (fun c6 => ?_)
  · replace h := (if_pos c6).symm.trans h
    refine G.aload_n (i := 0) dX8_count_133 rfl rfl ?_
    refine G.getR ck8 shM_0 0 rfl (by decide) q838 dX8_count_134 ?_
    refine G.bipush dX8_count_137 kb_43 ?_
    refine G.ialdc 43 shM_1 rfl (by decide) dX8_count_139 ?_
    cases h
    exact G.iret dX8_count_140 rfl
  replace h := (if_neg c6).symm.trans h
  refine G.tsCase 7 141 dX8_count_1 (by decide) (by decide) rfl rfl (fun c7 => ?_) (fun c7 => ?_)
  · replace h := (if_pos c7).symm.trans h
    exact eb_mm_count_141  h
  replace h := (if_neg c7).symm.trans h
  refine G.tsCase 8 141 dX8_count_1 (by decide) (by decide) rfl rfl (fun c8 => ?_) (fun c8 => ?_)
  · replace h := (if_pos c8).symm.trans h
    exact eb_mm_count_141  h
  replace h := (if_neg c8).symm.trans h
  refine G.tsCase 9 141 dX8_count_1 (by decide) (by decide) rfl rfl (fun c9 => ?_) (fun c9 => ?_)
  · replace h := (if_pos c9).symm.trans h
    exact eb_mm_count_141  h
  replace h := (if_neg c9).symm.trans h
  refine G.tsCase 10 141 dX8_count_1 (by decide) (by decide) rfl rfl (fun c10 => ?_) (fun c10 => ?_)
  · replace h := (if_pos c10).symm.trans h
    exact eb_mm_count_141  h
  replace h := (if_neg c10).symm.trans h
  refine G.tsCase 11 154 dX8_count_1 (by decide) (by decide) rfl rfl (fun c11 => ?_) (fun c11 => ?_)
  · replace h := (if_pos c11).symm.trans h
    refine G.aload_n (i := 0) dX8_count_154 rfl rfl ?_
    obtain ⟨v8, hv, h⟩ := bd h
    refine G.callV (e_mm_unitsInJars hv) cs_X8_count_X8_unitsInJars ck8 shM_0 rfl rfl (Nat.le_of_ble_eq_true rfl) q1132 q1134 q59 dX8_count_155 ?_
    cases h
    exact G.iret dX8_count_158 rfl
  replace h := (if_neg c11).symm.trans h
  refine G.tsCase 12 159 dX8_count_1 (by decide) (by decide) rfl rfl (fun c12 => ?_) (fun c12 => ?_)
  · replace h := (if_pos c12).symm.trans h
    exact eb_mm_count_159  h
  replace h := (if_neg c12).symm.trans h
  refine G.tsCase 13 159 dX8_count_1 (by decide) (by decide) rfl rfl (fun c13 => ?_) (fun c13 => ?_)
  · replace h := (if_pos c13).symm.trans h
    exact eb_mm_count_159  h
  replace h := (if_neg c13).symm.trans h
  refine G.tsCase 14 159 dX8_count_1 (by decide) (by decide) rfl rfl (fun c14 => ?_) (fun c14 => ?_)
  · replace h := (if_pos c14).symm.trans h
    exact eb_mm_count_159  h
  replace h := (if_neg c14).symm.trans h
  refine G.tsCase 15 159 dX8_count_1 (by decide) (by decide) rfl rfl (fun c15 => ?_) (fun c15 => ?_)
  · replace h := (if_pos c15).symm.trans h
    exact eb_mm_count_159  h
  replace h := (if_neg c15).symm.trans h
  refine G.tsCase 16 172 dX8_count_1 (by decide) (by decide) rfl rfl (fun c16 => ?_) (fun c16 => ?_)
  · replace h := (if_pos c16).symm.trans h
    refine G.aload_n (i := 0) dX8_count_172 rfl rfl ?_
    refine G.getI ck8 shM_0 3 rfl (by decide) q841 dX8_count_173 ?_
    cases h
    exact G.iret dX8_count_176 rfl
  replace h := (if_neg c16).symm.trans h
  refine G.tsCase 17 177 dX8_count_1 (by decide) (by decide) rfl rfl (fun c17 => ?_) (fun c17 => ?_)
  · replace h := (if_pos c17).symm.trans h
    refine G.aload_n (i := 0) dX8_count_177 rfl rfl ?_
    refine G.getI ck8 shM_0 7 rfl (by decide) q845 dX8_count_178 ?_
    cases h
    exact G.iret dX8_count_181 rfl
  replace h := (if_neg c17).symm.trans h
  refine G.tsOut 182 dX8_count_1 (by omega) rfl ?_
  refine G.bipush dX8_count_182 kb_m2 ?_
  cases h
  exact G.iret dX8_count_184 rfl
set_option maxRecDepth 100000 in
theorem eb_mm_isNext_40 {s0 : Int} {o1 : Option PV} {o2 : Option PV} {μ : Mem} {res : Int} (h : mm_isNext_40 s0 μ = some res) : G shM l D ad ca YX8_isNext 40 [some (.inr 0), o1, o2] [.inl s0] μ (some (.inl res)) μ := by
  rw [mm_isNext_40] at h
  obtain ⟨hz, h⟩ := ite_yn h
  cases h
  exact G.zret .boolean dX8_isNext_40 rfl (nar_z hz)
set_option maxRecDepth 100000 in
theorem eb_mm_isNext_39 {o1 : Option PV} {o2 : Option PV} {μ : Mem} {res : Int} (h : mm_isNext_39 μ = some res) : G shM l D ad ca YX8_isNext 39 [some (.inr 0), o1, o2] [] μ (some (.inl res)) μ := by
  rw [mm_isNext_39] at h
  refine G.iconst dX8_isNext_39 ki_0 ?_
  exact eb_mm_isNext_40  h
set_option maxRecDepth 100000 in
theorem e_mm_isNext {a1 : Int} {a2 : Int} {μ : Mem} {res : Int} (h : mm_isNext a1 a2 μ = some res) : GM shM l D ad ca YX8_isNext [.inr 0, .inl a1, .inl a2] μ (some (.inl res)) μ := by
  refine GM.of (L := [some (.inr 0), some (.inl a1), some (.inl a2)]) (by decide +kernel) rfl (Nat.le_of_ble_eq_true rfl) ?_
  rw [mm_isNext] at h
  refine G.aload_n (i := 0) dX8_isNext_0 rfl rfl ?_
  refine G.getI ck8 shM_0 15 rfl (by decide) q853 dX8_isNext_1 ?_
  refine G.if_ne 39 dX8_isNext_4 rfl (fun c => ?_) (fun c => ?_)
  · replace h := (if_neg c).symm.trans h
    exact eb_mm_isNext_39  h
  · replace h := (if_pos c).symm.trans h
    refine G.aload_n (i := 0) dX8_isNext_7 rfl rfl ?_
    refine G.getI ck8 shM_0 14 rfl (by decide) q852 dX8_isNext_8 ?_
    refine G.aload_n (i := 0) dX8_isNext_11 rfl rfl ?_
    refine G.getI ck8 shM_0 7 rfl (by decide) q845 dX8_isNext_12 ?_
    refine G.icmp_ge 39 dX8_isNext_15 rfl (fun c => ?_) (fun c => ?_)
    · replace h := (if_pos c).symm.trans h
      exact eb_mm_isNext_39  h
    · replace h := (if_neg c).symm.trans h
      refine G.aload_n (i := 0) dX8_isNext_18 rfl rfl ?_
      refine G.getR ck8 shM_0 6 rfl (by decide) q844 dX8_isNext_19 ?_
      refine G.aload_n (i := 0) dX8_isNext_22 rfl rfl ?_
      refine G.getI ck8 shM_0 14 rfl (by decide) q852 dX8_isNext_23 ?_
      obtain ⟨v1, hv, h⟩ := bd h
      obtain ⟨hb, rfl⟩ := aget_some hv
      refine G.iald shM_5 hb dX8_isNext_26 ?_
      refine G.iload_n (i := 1) dX8_isNext_27 rfl rfl ?_
      refine G.iload_n (i := 2) dX8_isNext_28 rfl rfl ?_
      obtain ⟨v2, hv, h⟩ := bd h
      refine G.callS (e_mm_in hv) cs_X8_isNext_X8_in rfl (Nat.le_of_ble_eq_true rfl) q904 q905 dX8_isNext_29 ?_
      refine G.if_eq 39 dX8_isNext_32 rfl (fun c => ?_) (fun c => ?_)
      · replace h := (if_pos c).symm.trans h
        exact eb_mm_isNext_39  h
      · replace h := (if_neg c).symm.trans h
        refine G.iconst dX8_isNext_35 ki_1 ?_
        refine G.goto 40 dX8_isNext_36 rfl ?_
        exact eb_mm_isNext_40  h
set_option maxRecDepth 100000 in
theorem eb_mm_sign_78 {x3 : Int} {s1 : Int} {s2 : Int} {o1 : Option PV} {o2 : Option PV} {μ : Mem} {res : (Int × Mem)} (h : mm_sign_78 x3 s1 s2 μ = some res) : G shM l D ad ca YX8_sign 78 [some (.inr 0), o1, o2, some (.inl x3)] [.inl s2, .inl s1, .inr 0] μ (some (.inl res.1)) res.2 := by
  rw [mm_sign_78] at h
  refine G.iadd dX8_sign_78 ?_
  replace h := bnd_mp h
  refine G.putI ck8 shM_0 14 rfl (by decide) q852 rfl rfl rfl dX8_sign_79 ?_
  refine G.iload_n (i := 3) dX8_sign_82 rfl rfl ?_
  cases h
  exact G.iret dX8_sign_83 rfl
set_option maxRecDepth 100000 in
theorem eb_mm_sign_58 {x3 : Int} {s1 : Int} {o1 : Option PV} {o2 : Option PV} {μ : Mem} {res : (Int × Mem)} (h : mm_sign_58 x3 s1 μ = some res) : G shM l D ad ca YX8_sign 58 [some (.inr 0), o1, o2, some (.inl x3)] [.inl s1, .inr 0] μ (some (.inl res.1)) res.2 := by
  rw [mm_sign_58] at h
  obtain ⟨hz, h⟩ := ite_yn h
  replace h := bnd_mp h
  refine G.putI ck8 shM_0 15 rfl (by decide) q853 rfl (nar_z hz) (fit_z hz) dX8_sign_58 ?_
  refine G.aload_n (i := 0) dX8_sign_61 rfl rfl ?_
  refine G.dup dX8_sign_62 ?_
  refine G.getI ck8 shM_0 14 rfl (by decide) q852 dX8_sign_63 ?_
  refine G.aload_n (i := 0) dX8_sign_66 rfl rfl ?_
  refine G.getI ck8 shM_0 15 rfl (by decide) q853 dX8_sign_67 ?_
  refine G.if_eq 77 dX8_sign_70 rfl (fun c => ?_) (fun c => ?_)
  · replace h := (if_pos c).symm.trans h
    refine G.iconst dX8_sign_77 ki_1 ?_
    exact eb_mm_sign_78  h
  · replace h := (if_neg c).symm.trans h
    refine G.iconst dX8_sign_73 ki_0 ?_
    refine G.goto 78 dX8_sign_74 rfl ?_
    exact eb_mm_sign_78  h
set_option maxRecDepth 100000 in
theorem eb_mm_sign_53 {x3 : Int} {o1 : Option PV} {o2 : Option PV} {μ : Mem} {res : (Int × Mem)} (h : mm_sign_53 x3 μ = some res) : G shM l D ad ca YX8_sign 53 [some (.inr 0), o1, o2, some (.inl x3)] [.inr 0] μ (some (.inl res.1)) res.2 := by
  rw [mm_sign_53] at h
  refine G.iconst dX8_sign_53 ki_1 ?_
  refine G.goto 58 dX8_sign_54 rfl ?_
  exact eb_mm_sign_58  h
set_option maxRecDepth 100000 in
theorem eb_mm_sign_24 {x1 : Int} {x2 : Int} {s0 : Int} {o3 : Option PV} {μ : Mem} {res : (Int × Mem)} (h : mm_sign_24 x1 x2 s0 μ = some res) : G shM l D ad ca YX8_sign 24 [some (.inr 0), some (.inl x1), some (.inl x2), o3] [.inl s0] μ (some (.inl res.1)) res.2 := by
  rw [mm_sign_24] at h
  refine G.istore_n (i := 3) dX8_sign_24 rfl (Nat.le_of_ble_eq_true rfl) ?_
  refine G.aload_n (i := 0) dX8_sign_25 rfl rfl ?_
  refine G.aload_n (i := 0) dX8_sign_26 rfl rfl ?_
  refine G.getI ck8 shM_0 15 rfl (by decide) q853 dX8_sign_27 ?_
  refine G.if_ne 53 dX8_sign_30 rfl (fun c => ?_) (fun c => ?_)
  · replace h := (if_neg c).symm.trans h
    exact eb_mm_sign_53  h
  · replace h := (if_pos c).symm.trans h
    refine G.aload_n (i := 0) dX8_sign_33 rfl rfl ?_
    refine G.getI ck8 shM_0 14 rfl (by decide) q852 dX8_sign_34 ?_
    refine G.aload_n (i := 0) dX8_sign_37 rfl rfl ?_
    refine G.getI ck8 shM_0 7 rfl (by decide) q845 dX8_sign_38 ?_
    refine G.icmp_ge 53 dX8_sign_41 rfl (fun c => ?_) (fun c => ?_)
    · replace h := (if_pos c).symm.trans h
      exact eb_mm_sign_53  h
    · replace h := (if_neg c).symm.trans h
      refine G.iload_n (i := 3) dX8_sign_44 rfl rfl ?_
      refine G.iload_n (i := 1) dX8_sign_45 rfl rfl ?_
      refine G.iload_n (i := 2) dX8_sign_46 rfl rfl ?_
      obtain ⟨v3, hv, h⟩ := bd h
      refine G.callS (e_mm_in hv) cs_X8_sign_X8_in rfl (Nat.le_of_ble_eq_true rfl) q904 q905 dX8_sign_47 ?_
      refine G.if_ne 57 dX8_sign_50 rfl (fun c => ?_) (fun c => ?_)
      · replace h := (if_neg c).symm.trans h
        refine G.iconst dX8_sign_57 ki_0 ?_
        exact eb_mm_sign_58  h
      · replace h := (if_pos c).symm.trans h
        exact eb_mm_sign_53  h
set_option maxRecDepth 100000 in
theorem e_mm_sign {a1 : Int} {a2 : Int} {μ : Mem} {res : (Int × Mem)} (h : mm_sign a1 a2 μ = some res) : GM shM l D ad ca YX8_sign [.inr 0, .inl a1, .inl a2] μ (some (.inl res.1)) res.2 := by
  refine GM.of (L := [some (.inr 0), some (.inl a1), some (.inl a2), none]) (by decide +kernel) rfl (Nat.le_of_ble_eq_true rfl) ?_
  rw [mm_sign] at h
  refine G.aload_n (i := 0) dX8_sign_0 rfl rfl ?_
  refine G.getI ck8 shM_0 14 rfl (by decide) q852 dX8_sign_1 ?_
  refine G.aload_n (i := 0) dX8_sign_4 rfl rfl ?_
  refine G.getI ck8 shM_0 7 rfl (by decide) q845 dX8_sign_5 ?_
  refine G.icmp_ge 23 dX8_sign_8 rfl (fun c => ?_) (fun c => ?_)
  · replace h := (if_pos c).symm.trans h
    refine G.iconst dX8_sign_23 ki_0 ?_
    exact eb_mm_sign_24  h
  · replace h := (if_neg c).symm.trans h
    refine G.aload_n (i := 0) dX8_sign_11 rfl rfl ?_
    refine G.getR ck8 shM_0 6 rfl (by decide) q844 dX8_sign_12 ?_
    refine G.aload_n (i := 0) dX8_sign_15 rfl rfl ?_
    refine G.getI ck8 shM_0 14 rfl (by decide) q852 dX8_sign_16 ?_
    obtain ⟨v4, hv, h⟩ := bd h
    obtain ⟨hb, rfl⟩ := aget_some hv
    refine G.iald shM_5 hb dX8_sign_19 ?_
    refine G.goto 24 dX8_sign_20 rfl ?_
    exact eb_mm_sign_24  h
set_option maxRecDepth 100000 in
theorem eb_mm_signs_49 {s0 : Int} {o1 : Option PV} {o2 : Option PV} {o3 : Option PV} {o4 : Option PV} {o5 : Option PV} {o6 : Option PV} {o7 : Option PV} {o8 : Option PV} {o9 : Option PV} {μ : Mem} {res : Mem} (h : mm_signs_49 s0 μ = some res) : G shM l D ad ca YX8_signs 49 [some (.inr 0), o1, o2, o3, o4, o5, o6, o7, o8, o9] [.inl s0] μ none res := by
  rw [mm_signs_49] at h
  refine G.istore dX8_signs_49 (Nat.le_of_ble_eq_true rfl) ?_
  refine G.aload_n (i := 0) dX8_signs_51 rfl rfl ?_
  refine G.bipush dX8_signs_52 kb_61 ?_
  refine G.bipush dX8_signs_54 kb_61 ?_
  obtain ⟨p7, hv, h⟩ := bd h
  refine G.callV (e_mm_sign hv) cs_X8_signs_X8_sign ck8 shM_0 rfl rfl (Nat.le_of_ble_eq_true rfl) q1045 q1047 q51 dX8_signs_56 ?_
  replace h := bnd_mp h
  refine G.istore dX8_signs_59 (Nat.le_of_ble_eq_true rfl) ?_
  cases h
  exact G.vret dX8_signs_61 rfl
set_option maxRecDepth 100000 in
theorem eb_mm_signs_30 {x4 : Int} {s0 : Int} {o1 : Option PV} {o2 : Option PV} {o3 : Option PV} {o5 : Option PV} {o6 : Option PV} {o7 : Option PV} {o8 : Option PV} {o9 : Option PV} {μ : Mem} {res : Mem} (h : mm_signs_30 x4 s0 μ = some res) : G shM l D ad ca YX8_signs 30 [some (.inr 0), o1, o2, o3, some (.inl x4), o5, o6, o7, o8, o9] [.inl s0] μ none res := by
  rw [mm_signs_30] at h
  refine G.istore dX8_signs_30 (Nat.le_of_ble_eq_true rfl) ?_
  refine G.iload dX8_signs_32 rfl ?_
  refine G.if_ne 41 dX8_signs_34 rfl (fun c => ?_) (fun c => ?_)
  · replace h := (if_neg c).symm.trans h
    refine G.aload_n (i := 0) dX8_signs_41 rfl rfl ?_
    refine G.iload dX8_signs_42 rfl ?_
    refine G.iload dX8_signs_44 rfl ?_
    obtain ⟨p6, hv, h⟩ := bd h
    refine G.callV (e_mm_sign hv) cs_X8_signs_X8_sign ck8 shM_0 rfl rfl (Nat.le_of_ble_eq_true rfl) q1045 q1047 q51 dX8_signs_46 ?_
    exact eb_mm_signs_49  h
  · replace h := (if_pos c).symm.trans h
    refine G.iconst dX8_signs_37 ki_0 ?_
    refine G.goto 49 dX8_signs_38 rfl ?_
    exact eb_mm_signs_49  h
set_option maxRecDepth 100000 in
theorem e_mm_signs {a1 : Int} {a2 : Int} {a3 : Int} {a4 : Int} {μ : Mem} {res : Mem} (h : mm_signs a1 a2 a3 a4 μ = some res) : GM shM l D ad ca YX8_signs [.inr 0, .inl a1, .inl a2, .inl a3, .inl a4] μ none res := by
  refine GM.of (L := [some (.inr 0), some (.inl a1), some (.inl a2), some (.inl a3), some (.inl a4), none, none, none, none, none]) (by decide +kernel) rfl (Nat.le_of_ble_eq_true rfl) ?_
  rw [mm_signs] at h
  refine G.aload_n (i := 0) dX8_signs_0 rfl rfl ?_
  refine G.iload_n (i := 1) dX8_signs_1 rfl rfl ?_
  refine G.iload_n (i := 1) dX8_signs_2 rfl rfl ?_
  obtain ⟨p1, hv, h⟩ := bd h
  refine G.callV (e_mm_sign hv) cs_X8_signs_X8_sign ck8 shM_0 rfl rfl (Nat.le_of_ble_eq_true rfl) q1045 q1047 q51 dX8_signs_3 ?_
  replace h := bnd_mp h
  refine G.istore dX8_signs_6 (Nat.le_of_ble_eq_true rfl) ?_
  refine G.aload_n (i := 0) dX8_signs_8 rfl rfl ?_
  refine G.iload_n (i := 2) dX8_signs_9 rfl rfl ?_
  refine G.iload_n (i := 2) dX8_signs_10 rfl rfl ?_
  obtain ⟨p3, hv, h⟩ := bd h
  refine G.callV (e_mm_sign hv) cs_X8_signs_X8_sign ck8 shM_0 rfl rfl (Nat.le_of_ble_eq_true rfl) q1045 q1047 q51 dX8_signs_11 ?_
  replace h := bnd_mp h
  refine G.istore dX8_signs_14 (Nat.le_of_ble_eq_true rfl) ?_
  refine G.iload_n (i := 3) dX8_signs_16 rfl rfl ?_
  refine G.if_ne 24 dX8_signs_17 rfl (fun c => ?_) (fun c => ?_)
  · replace h := (if_neg c).symm.trans h
    refine G.aload_n (i := 0) dX8_signs_24 rfl rfl ?_
    refine G.iload_n (i := 3) dX8_signs_25 rfl rfl ?_
    refine G.iload_n (i := 3) dX8_signs_26 rfl rfl ?_
    obtain ⟨p5, hv, h⟩ := bd h
    refine G.callV (e_mm_sign hv) cs_X8_signs_X8_sign ck8 shM_0 rfl rfl (Nat.le_of_ble_eq_true rfl) q1045 q1047 q51 dX8_signs_27 ?_
    exact eb_mm_signs_30  h
  · replace h := (if_pos c).symm.trans h
    refine G.iconst dX8_signs_20 ki_0 ?_
    refine G.goto 30 dX8_signs_21 rfl ?_
    exact eb_mm_signs_30  h
set_option maxRecDepth 100000 in
theorem eb_mm_mix_145 {x1 : Int} {o2 : Option PV} {o3 : Option PV} {o4 : Option PV} {o5 : Option PV} {o6 : Option PV} {μ : Mem} {res : (Int × Mem)} (h : mm_mix_145 x1 μ = some res) : G shM l D ad ca YX8_mix 145 [some (.inr 0), some (.inl x1), o2, o3, o4, o5, o6] [] μ (some (.inl res.1)) res.2 := by
  rw [mm_mix_145] at h
  refine G.iload_n (i := 1) dX8_mix_145 rfl rfl ?_
  cases h
  exact G.iret dX8_mix_146 rfl
set_option maxRecDepth 100000 in
theorem eb_mm_mix_133 {K14 : Int → Int → Mem → Option (Int × Mem)} (hK14 : ∀ (x1 : Int) (x2 : Int) (o3 : Option PV) (o4 : Option PV) (o5 : Option PV) (o6 : Option PV) (μ : Mem) (res : (Int × Mem)), K14 x1 x2 μ = some res → G shM l D ad ca YX8_mix 14 [some (.inr 0), some (.inl x1), some (.inl x2), o3, o4, o5, o6] [] μ (some (.inl res.1)) res.2) {x1 : Int} {o2 : Option PV} {o3 : Option PV} {o4 : Option PV} {o5 : Option PV} {o6 : Option PV} {μ : Mem} {res : (Int × Mem)} (h : mm_mix_133 K14 x1 μ = some res) : G shM l D ad ca YX8_mix 133 [some (.inr 0), some (.inl x1), o2, o3, o4, o5, o6] [] μ (some (.inl res.1)) res.2 := by
  rw [mm_mix_133] at h
  refine G.aload_n (i := 0) dX8_mix_133 rfl rfl ?_
  refine G.bipush dX8_mix_134 kb_97 ?_
  refine G.bipush dX8_mix_136 kb_104 ?_
  obtain ⟨v6, hv, h⟩ := bd h
  refine G.callV (e_mm_isNext hv) cs_X8_mix_X8_isNext ck8 shM_0 rfl rfl (Nat.le_of_ble_eq_true rfl) q1037 q1039 q49 dX8_mix_138 ?_
  refine G.istore_n (i := 2) dX8_mix_141 rfl (Nat.le_of_ble_eq_true rfl) ?_
  refine G.goto 14 dX8_mix_142 rfl ?_
  exact hK14 _ _ _ _ _ _ _ _ h
set_option maxRecDepth 100000 in
theorem eb_mm_mix_104 {K14 : Int → Int → Mem → Option (Int × Mem)} (hK14 : ∀ (x1 : Int) (x2 : Int) (o3 : Option PV) (o4 : Option PV) (o5 : Option PV) (o6 : Option PV) (μ : Mem) (res : (Int × Mem)), K14 x1 x2 μ = some res → G shM l D ad ca YX8_mix 14 [some (.inr 0), some (.inl x1), some (.inl x2), o3, o4, o5, o6] [] μ (some (.inl res.1)) res.2) {x1 : Int} {x3 : Int} {x4 : Int} {o2 : Option PV} {o5 : Option PV} {o6 : Option PV} {μ : Mem} {res : (Int × Mem)} (h : mm_mix_104 K14 x1 x3 x4 μ = some res) : G shM l D ad ca YX8_mix 104 [some (.inr 0), some (.inl x1), o2, some (.inl x3), some (.inl x4), o5, o6] [] μ (some (.inl res.1)) res.2 := by
  rw [mm_mix_104] at h
  refine G.aload_n (i := 0) dX8_mix_104 rfl rfl ?_
  refine G.dup dX8_mix_105 ?_
  refine G.getI ck8 shM_0 16 rfl (by decide) q854 dX8_mix_106 ?_
  refine G.iload dX8_mix_109 rfl ?_
  refine G.iadd dX8_mix_111 ?_
  replace h := bnd_mp h
  refine G.putI ck8 shM_0 16 rfl (by decide) q854 rfl rfl rfl dX8_mix_112 ?_
  refine G.aload_n (i := 0) dX8_mix_115 rfl rfl ?_
  refine G.dup dX8_mix_116 ?_
  refine G.getI ck8 shM_0 17 rfl (by decide) q855 dX8_mix_117 ?_
  refine G.iload dX8_mix_120 rfl ?_
  refine G.aload_n (i := 0) dX8_mix_122 rfl rfl ?_
  refine G.getR ck8 shM_0 0 rfl (by decide) q838 dX8_mix_123 ?_
  refine G.iload_n (i := 3) dX8_mix_126 rfl rfl ?_
  obtain ⟨v9, hv, h⟩ := bd h
  obtain ⟨hb, rfl⟩ := aget_some hv
  refine G.iald shM_1 hb dX8_mix_127 ?_
  refine G.imul dX8_mix_128 ?_
  refine G.iadd dX8_mix_129 ?_
  replace h := bnd_mp h
  refine G.putI ck8 shM_0 17 rfl (by decide) q855 rfl rfl rfl dX8_mix_130 ?_
  exact eb_mm_mix_133 hK14 h
set_option maxRecDepth 100000 in
theorem eb_mm_mix_84 {K14 : Int → Int → Mem → Option (Int × Mem)} (hK14 : ∀ (x1 : Int) (x2 : Int) (o3 : Option PV) (o4 : Option PV) (o5 : Option PV) (o6 : Option PV) (μ : Mem) (res : (Int × Mem)), K14 x1 x2 μ = some res → G shM l D ad ca YX8_mix 14 [some (.inr 0), some (.inl x1), some (.inl x2), o3, o4, o5, o6] [] μ (some (.inl res.1)) res.2) : ∀ (n : Nat) (x1 : Int) (x3 : Int) (x4 : Int) (x5 : Int) (x6 : Int) (o2 : Option PV) (μ : Mem) (res : (Int × Mem)), mm_mix_84 K14 n x1 x3 x4 x5 x6 μ = some res → G shM l D ad ca YX8_mix 84 [some (.inr 0), some (.inl x1), o2, some (.inl x3), some (.inl x4), some (.inl x5), some (.inl x6)] [] μ (some (.inl res.1)) res.2 := by
  intro n
  induction n with
  | zero =>
    intro x1 x3 x4 x5 x6 o2 μ res h
    rw [mm_mix_84] at h
    cases h
  | succ n ih =>
    intro x1 x3 x4 x5 x6 o2 μ res h
    rw [mm_mix_84] at h
    refine G.iload dX8_mix_84 rfl ?_
    refine G.iload dX8_mix_86 rfl ?_
    refine G.icmp_ge 104 dX8_mix_88 rfl (fun c => ?_) (fun c => ?_)
    · replace h := (if_pos c).symm.trans h
      exact eb_mm_mix_104 hK14 h
    · replace h := (if_neg c).symm.trans h
      refine G.iload_n (i := 1) dX8_mix_91 rfl rfl ?_
      refine G.iload dX8_mix_92 rfl ?_
      obtain ⟨v11, hv, h⟩ := bd h
      refine G.callS (e_mm_mixed hv) cs_X8_mix_X8_mixed rfl (Nat.le_of_ble_eq_true rfl) q946 q947 dX8_mix_94 ?_
      refine G.istore_n (i := 1) dX8_mix_97 rfl (Nat.le_of_ble_eq_true rfl) ?_
      replace h := bnd_mp h
      refine G.iinc dX8_mix_98 rfl (Nat.le_of_ble_eq_true rfl) ?_
      refine G.goto 84 dX8_mix_101 rfl ?_
      exact ih _ _ _ _ _ _ _ _ h
set_option maxRecDepth 100000 in
theorem eb_mm_mix_68 {K14 : Int → Int → Mem → Option (Int × Mem)} (hK14 : ∀ (x1 : Int) (x2 : Int) (o3 : Option PV) (o4 : Option PV) (o5 : Option PV) (o6 : Option PV) (μ : Mem) (res : (Int × Mem)), K14 x1 x2 μ = some res → G shM l D ad ca YX8_mix 14 [some (.inr 0), some (.inl x1), some (.inl x2), o3, o4, o5, o6] [] μ (some (.inl res.1)) res.2) {x1 : Int} {x3 : Int} {x4 : Int} {o2 : Option PV} {o5 : Option PV} {o6 : Option PV} {μ : Mem} {res : (Int × Mem)} (h : mm_mix_68 K14 x1 x3 x4 μ = some res) : G shM l D ad ca YX8_mix 68 [some (.inr 0), some (.inl x1), o2, some (.inl x3), some (.inl x4), o5, o6] [] μ (some (.inl res.1)) res.2 := by
  rw [mm_mix_68] at h
  refine G.aload_n (i := 0) dX8_mix_68 rfl rfl ?_
  refine G.getI ck8 shM_0 15 rfl (by decide) q853 dX8_mix_69 ?_
  refine G.if_ne 133 dX8_mix_72 rfl (fun c => ?_) (fun c => ?_)
  · replace h := (if_neg c).symm.trans h
    exact eb_mm_mix_133 hK14 h
  · replace h := (if_pos c).symm.trans h
    refine G.iload_n (i := 3) dX8_mix_75 rfl rfl ?_
    obtain ⟨v7, hv, h⟩ := bd h
    refine G.callS (e_mm_power hv) cs_X8_mix_X8_power rfl (Nat.le_of_ble_eq_true rfl) q1053 q1054 dX8_mix_76 ?_
    refine G.istore dX8_mix_79 (Nat.le_of_ble_eq_true rfl) ?_
    refine G.iconst dX8_mix_81 ki_0 ?_
    refine G.istore dX8_mix_82 (Nat.le_of_ble_eq_true rfl) ?_
    exact eb_mm_mix_84 hK14 _ _ _ _ _ _ _ _ _ h
set_option maxRecDepth 100000 in
theorem eb_mm_mix_14 : ∀ (n : Nat) (x1 : Int) (x2 : Int) (o3 : Option PV) (o4 : Option PV) (o5 : Option PV) (o6 : Option PV) (μ : Mem) (res : (Int × Mem)), mm_mix_14 n x1 x2 μ = some res → G shM l D ad ca YX8_mix 14 [some (.inr 0), some (.inl x1), some (.inl x2), o3, o4, o5, o6] [] μ (some (.inl res.1)) res.2 := by
  intro n
  induction n with
  | zero =>
    intro x1 x2 o3 o4 o5 o6 μ res h
    rw [mm_mix_14] at h
    cases h
  | succ n ih =>
    intro x1 x2 o3 o4 o5 o6 μ res h
    rw [mm_mix_14] at h
    refine G.iload_n (i := 2) dX8_mix_14 rfl rfl ?_
    refine G.if_eq 145 dX8_mix_15 rfl (fun c => ?_) (fun c => ?_)
    · replace h := (if_pos c).symm.trans h
      exact eb_mm_mix_145  h
    · replace h := (if_neg c).symm.trans h
      refine G.aload_n (i := 0) dX8_mix_18 rfl rfl ?_
      refine G.bipush dX8_mix_19 kb_97 ?_
      refine G.bipush dX8_mix_21 kb_104 ?_
      obtain ⟨p3, hv, h⟩ := bd h
      refine G.callV (e_mm_sign hv) cs_X8_mix_X8_sign ck8 shM_0 rfl rfl (Nat.le_of_ble_eq_true rfl) q1045 q1047 q51 dX8_mix_23 ?_
      refine G.bipush dX8_mix_26 kb_97 ?_
      refine G.isub dX8_mix_28 ?_
      replace h := bnd_mp h
      refine G.istore_n (i := 3) dX8_mix_29 rfl (Nat.le_of_ble_eq_true rfl) ?_
      refine G.iconst dX8_mix_30 ki_1 ?_
      refine G.istore dX8_mix_31 (Nat.le_of_ble_eq_true rfl) ?_
      refine G.aload_n (i := 0) dX8_mix_33 rfl rfl ?_
      refine G.bipush dX8_mix_34 kb_49 ?_
      refine G.bipush dX8_mix_36 kb_57 ?_
      obtain ⟨v5, hv, h⟩ := bd h
      refine G.callV (e_mm_isNext hv) cs_X8_mix_X8_isNext ck8 shM_0 rfl rfl (Nat.le_of_ble_eq_true rfl) q1037 q1039 q49 dX8_mix_38 ?_
      refine G.if_eq 68 dX8_mix_41 rfl (fun c => ?_) (fun c => ?_)
      · replace h := (if_pos c).symm.trans h
        exact eb_mm_mix_68 ih h
      · replace h := (if_neg c).symm.trans h
        refine G.aload_n (i := 0) dX8_mix_44 rfl rfl ?_
        refine G.getR ck8 shM_0 6 rfl (by decide) q844 dX8_mix_45 ?_
        refine G.aload_n (i := 0) dX8_mix_48 rfl rfl ?_
        refine G.getI ck8 shM_0 14 rfl (by decide) q852 dX8_mix_49 ?_
        obtain ⟨v13, hv, h⟩ := bd h
        obtain ⟨hb, rfl⟩ := aget_some hv
        refine G.iald shM_5 hb dX8_mix_52 ?_
        refine G.bipush dX8_mix_53 kb_48 ?_
        refine G.isub dX8_mix_55 ?_
        replace h := bnd_mp h
        refine G.istore dX8_mix_56 (Nat.le_of_ble_eq_true rfl) ?_
        refine G.aload_n (i := 0) dX8_mix_58 rfl rfl ?_
        refine G.dup dX8_mix_59 ?_
        refine G.getI ck8 shM_0 14 rfl (by decide) q852 dX8_mix_60 ?_
        refine G.iconst dX8_mix_63 ki_1 ?_
        refine G.iadd dX8_mix_64 ?_
        replace h := bnd_mp h
        refine G.putI ck8 shM_0 14 rfl (by decide) q852 rfl rfl rfl dX8_mix_65 ?_
        exact eb_mm_mix_68 ih h
set_option maxRecDepth 100000 in
theorem e_mm_mix {μ : Mem} {res : (Int × Mem)} (h : mm_mix μ = some res) : GM shM l D ad ca YX8_mix [.inr 0] μ (some (.inl res.1)) res.2 := by
  refine GM.of (L := [some (.inr 0), none, none, none, none, none, none]) (by decide +kernel) rfl (Nat.le_of_ble_eq_true rfl) ?_
  rw [mm_mix] at h
  refine G.iconst dX8_mix_0 ki_0 ?_
  refine G.istore_n (i := 1) dX8_mix_1 rfl (Nat.le_of_ble_eq_true rfl) ?_
  refine G.aload_n (i := 0) dX8_mix_2 rfl rfl ?_
  refine G.iconst dX8_mix_3 ki_0 ?_
  replace h := bnd_mp h
  refine G.putI ck8 shM_0 16 rfl (by decide) q854 rfl rfl rfl dX8_mix_4 ?_
  refine G.aload_n (i := 0) dX8_mix_7 rfl rfl ?_
  refine G.iconst dX8_mix_8 ki_0 ?_
  replace h := bnd_mp h
  refine G.putI ck8 shM_0 17 rfl (by decide) q855 rfl rfl rfl dX8_mix_9 ?_
  refine G.iconst dX8_mix_12 ki_1 ?_
  refine G.istore_n (i := 2) dX8_mix_13 rfl (Nat.le_of_ble_eq_true rfl) ?_
  exact eb_mm_mix_14  _ _ _ _ _ _ _ _ _ h
set_option maxRecDepth 100000 in
theorem eb_mm_comes_25 {o1 : Option PV} {o2 : Option PV} {o3 : Option PV} {o4 : Option PV} {μ : Mem} {res : (Int × Mem)} (h : mm_comes_25 μ = some res) : G shM l D ad ca YX8_comes 25 [some (.inr 0), o1, o2, o3, o4] [] μ (some (.inl res.1)) res.2 := by
  rw [mm_comes_25] at h
  refine G.bipush dX8_comes_25 kb_m3 ?_
  cases h
  exact G.iret dX8_comes_27 rfl
set_option maxRecDepth 100000 in
theorem e_mm_comes {a1 : Int} {a2 : Int} {a3 : Int} {μ : Mem} {res : (Int × Mem)} (h : mm_comes a1 a2 a3 μ = some res) : GM shM l D ad ca YX8_comes [.inr 0, .inl a1, .inl a2, .inl a3] μ (some (.inl res.1)) res.2 := by
  refine GM.of (L := [some (.inr 0), some (.inl a1), some (.inl a2), some (.inl a3), none]) (by decide +kernel) rfl (Nat.le_of_ble_eq_true rfl) ?_
  rw [mm_comes] at h
  refine G.aload_n (i := 0) dX8_comes_0 rfl rfl ?_
  refine G.getR ck8 shM_0 0 rfl (by decide) q838 dX8_comes_1 ?_
  refine G.bipush dX8_comes_4 kb_8 ?_
  refine G.ialdc 8 shM_1 rfl (by decide) dX8_comes_6 ?_
  refine G.bipush dX8_comes_7 kb_12 ?_
  refine G.icmp_eq 25 dX8_comes_9 rfl (fun c => ?_) (fun c => ?_)
  · replace h := (if_pos c).symm.trans h
    exact eb_mm_comes_25  h
  · replace h := (if_neg c).symm.trans h
    refine G.aload_n (i := 0) dX8_comes_12 rfl rfl ?_
    refine G.getR ck8 shM_0 0 rfl (by decide) q838 dX8_comes_13 ?_
    refine G.bipush dX8_comes_16 kb_33 ?_
    refine G.ialdc 33 shM_1 rfl (by decide) dX8_comes_18 ?_
    refine G.sipush dX8_comes_19 ks_200 ?_
    refine G.icmp_ne 28 dX8_comes_22 rfl (fun c => ?_) (fun c => ?_)
    · replace h := (if_neg c).symm.trans h
      refine G.aload_n (i := 0) dX8_comes_28 rfl rfl ?_
      refine G.getR ck8 shM_0 0 rfl (by decide) q838 dX8_comes_29 ?_
      refine G.bipush dX8_comes_32 kb_33 ?_
      refine G.ialdc 33 shM_1 rfl (by decide) dX8_comes_34 ?_
      refine G.istore dX8_comes_35 (Nat.le_of_ble_eq_true rfl) ?_
      refine G.aload_n (i := 0) dX8_comes_37 rfl rfl ?_
      refine G.getR ck8 shM_0 0 rfl (by decide) q838 dX8_comes_38 ?_
      refine G.bipush dX8_comes_41 kb_9 ?_
      refine G.iconst dX8_comes_43 ki_2 ?_
      refine G.aload_n (i := 0) dX8_comes_44 rfl rfl ?_
      refine G.getR ck8 shM_0 0 rfl (by decide) q838 dX8_comes_45 ?_
      refine G.bipush dX8_comes_48 kb_8 ?_
      refine G.ialdc 8 shM_1 rfl (by decide) dX8_comes_50 ?_
      refine G.imul dX8_comes_51 ?_
      refine G.iadd dX8_comes_52 ?_
      refine G.iload dX8_comes_53 rfl ?_
      obtain ⟨μ1, hv, h⟩ := bd h
      obtain ⟨hb, rfl⟩ := aput_some hv
      refine G.iast shM_1 hb dX8_comes_55 ?_
      refine G.aload_n (i := 0) dX8_comes_56 rfl rfl ?_
      refine G.getR ck8 shM_0 0 rfl (by decide) q838 dX8_comes_57 ?_
      refine G.bipush dX8_comes_60 kb_9 ?_
      refine G.iconst dX8_comes_62 ki_2 ?_
      refine G.aload_n (i := 0) dX8_comes_63 rfl rfl ?_
      refine G.getR ck8 shM_0 0 rfl (by decide) q838 dX8_comes_64 ?_
      refine G.bipush dX8_comes_67 kb_8 ?_
      refine G.ialdc 8 shM_1 rfl (by decide) dX8_comes_69 ?_
      refine G.imul dX8_comes_70 ?_
      refine G.iadd dX8_comes_71 ?_
      refine G.iconst dX8_comes_72 ki_1 ?_
      refine G.iadd dX8_comes_73 ?_
      refine G.iload_n (i := 1) dX8_comes_74 rfl rfl ?_
      obtain ⟨μ2, hv, h⟩ := bd h
      obtain ⟨hb, rfl⟩ := aput_some hv
      refine G.iast shM_1 hb dX8_comes_75 ?_
      refine G.aload_n (i := 0) dX8_comes_76 rfl rfl ?_
      refine G.getR ck8 shM_0 0 rfl (by decide) q838 dX8_comes_77 ?_
      refine G.bipush dX8_comes_80 kb_8 ?_
      refine G.dup2 dX8_comes_82 ?_
      refine G.ialdc 8 shM_1 rfl (by decide) dX8_comes_83 ?_
      refine G.iconst dX8_comes_84 ki_1 ?_
      refine G.iadd dX8_comes_85 ?_
      replace h := bnd_mp h
      refine G.iastc 8 shM_1 rfl (by decide) dX8_comes_86 ?_
      refine G.aload_n (i := 0) dX8_comes_87 rfl rfl ?_
      refine G.getR ck8 shM_0 0 rfl (by decide) q838 dX8_comes_88 ?_
      refine G.bipush dX8_comes_91 kb_33 ?_
      refine G.dup2 dX8_comes_93 ?_
      refine G.ialdc 33 shM_1 rfl (by decide) dX8_comes_94 ?_
      refine G.iconst dX8_comes_95 ki_1 ?_
      refine G.iadd dX8_comes_96 ?_
      replace h := bnd_mp h
      refine G.iastc 33 shM_1 rfl (by decide) dX8_comes_97 ?_
      refine G.aload_n (i := 0) dX8_comes_98 rfl rfl ?_
      refine G.getR ck8 shM_0 0 rfl (by decide) q838 dX8_comes_99 ?_
      refine G.bipush dX8_comes_102 kb_52 ?_
      refine G.dup2 dX8_comes_104 ?_
      refine G.ialdc 52 shM_1 rfl (by decide) dX8_comes_105 ?_
      refine G.iload_n (i := 2) dX8_comes_106 rfl rfl ?_
      refine G.iadd dX8_comes_107 ?_
      replace h := bnd_mp h
      refine G.iastc 52 shM_1 rfl (by decide) dX8_comes_108 ?_
      refine G.aload_n (i := 0) dX8_comes_109 rfl rfl ?_
      refine G.getR ck8 shM_0 0 rfl (by decide) q838 dX8_comes_110 ?_
      refine G.bipush dX8_comes_113 kb_56 ?_
      refine G.dup2 dX8_comes_115 ?_
      refine G.ialdc 56 shM_1 rfl (by decide) dX8_comes_116 ?_
      refine G.iload_n (i := 3) dX8_comes_117 rfl rfl ?_
      refine G.iadd dX8_comes_118 ?_
      replace h := bnd_mp h
      refine G.iastc 56 shM_1 rfl (by decide) dX8_comes_119 ?_
      refine G.aload_n (i := 0) dX8_comes_120 rfl rfl ?_
      refine G.getR ck8 shM_0 0 rfl (by decide) q838 dX8_comes_121 ?_
      refine G.bipush dX8_comes_124 kb_53 ?_
      refine G.dup2 dX8_comes_126 ?_
      refine G.ialdc 53 shM_1 rfl (by decide) dX8_comes_127 ?_
      refine G.iload_n (i := 2) dX8_comes_128 rfl rfl ?_
      refine G.iload_n (i := 1) dX8_comes_129 rfl rfl ?_
      obtain ⟨v7, hv, h⟩ := bd h
      refine G.callS (e_mm_units hv) cs_X8_comes_X8_units rfl (Nat.le_of_ble_eq_true rfl) q911 q912 dX8_comes_130 ?_
      refine G.isub dX8_comes_133 ?_
      refine G.iadd dX8_comes_134 ?_
      replace h := bnd_mp h
      refine G.iastc 53 shM_1 rfl (by decide) dX8_comes_135 ?_
      refine G.iload dX8_comes_136 rfl ?_
      cases h
      exact G.iret dX8_comes_138 rfl
    · replace h := (if_pos c).symm.trans h
      exact eb_mm_comes_25  h
set_option maxRecDepth 100000 in
theorem e_mm_rules {a1 : Int} {μ : Mem} {res : (Int × Mem)} (h : mm_rules a1 μ = some res) : GM shM l D ad ca YX8_rules [.inr 0, .inl a1] μ (some (.inl res.1)) res.2 := by
  refine GM.of (L := [some (.inr 0), some (.inl a1)]) (by decide +kernel) rfl (Nat.le_of_ble_eq_true rfl) ?_
  rw [mm_rules] at h
  refine G.aload_n (i := 0) dX8_rules_0 rfl rfl ?_
  refine G.getR ck8 shM_0 0 rfl (by decide) q838 dX8_rules_1 ?_
  refine G.bipush dX8_rules_4 kb_34 ?_
  refine G.ialdc 34 shM_1 rfl (by decide) dX8_rules_6 ?_
  refine G.bipush dX8_rules_7 kb_8 ?_
  refine G.icmp_ne 15 dX8_rules_9 rfl (fun c => ?_) (fun c => ?_)
  · replace h := (if_neg c).symm.trans h
    refine G.aload_n (i := 0) dX8_rules_15 rfl rfl ?_
    refine G.getR ck8 shM_0 0 rfl (by decide) q838 dX8_rules_16 ?_
    refine G.bipush dX8_rules_19 kb_35 ?_
    refine G.aload_n (i := 0) dX8_rules_21 rfl rfl ?_
    refine G.getR ck8 shM_0 0 rfl (by decide) q838 dX8_rules_22 ?_
    refine G.bipush dX8_rules_25 kb_34 ?_
    refine G.ialdc 34 shM_1 rfl (by decide) dX8_rules_27 ?_
    refine G.iadd dX8_rules_28 ?_
    refine G.iload_n (i := 1) dX8_rules_29 rfl rfl ?_
    obtain ⟨μ1, hv, h⟩ := bd h
    obtain ⟨hb, rfl⟩ := aput_some hv
    refine G.iast shM_1 hb dX8_rules_30 ?_
    refine G.aload_n (i := 0) dX8_rules_31 rfl rfl ?_
    refine G.getR ck8 shM_0 0 rfl (by decide) q838 dX8_rules_32 ?_
    refine G.bipush dX8_rules_35 kb_34 ?_
    refine G.dup2 dX8_rules_37 ?_
    refine G.ialdc 34 shM_1 rfl (by decide) dX8_rules_38 ?_
    refine G.iconst dX8_rules_39 ki_1 ?_
    refine G.iadd dX8_rules_40 ?_
    replace h := bnd_mp h
    refine G.iastc 34 shM_1 rfl (by decide) dX8_rules_41 ?_
    refine G.iconst dX8_rules_42 ki_0 ?_
    cases h
    exact G.iret dX8_rules_43 rfl
  · replace h := (if_pos c).symm.trans h
    refine G.bipush dX8_rules_12 kb_m3 ?_
    cases h
    exact G.iret dX8_rules_14 rfl
set_option maxRecDepth 100000 in
theorem e_mm_wants {a1 : Int} {μ : Mem} {res : (Int × Mem)} (h : mm_wants a1 μ = some res) : GM shM l D ad ca YX8_wants [.inr 0, .inl a1] μ (some (.inl res.1)) res.2 := by
  refine GM.of (L := [some (.inr 0), some (.inl a1)]) (by decide +kernel) rfl (Nat.le_of_ble_eq_true rfl) ?_
  rw [mm_wants] at h
  refine G.aload_n (i := 0) dX8_wants_0 rfl rfl ?_
  refine G.getR ck8 shM_0 0 rfl (by decide) q838 dX8_wants_1 ?_
  refine G.bipush dX8_wants_4 kb_43 ?_
  refine G.ialdc 43 shM_1 rfl (by decide) dX8_wants_6 ?_
  refine G.bipush dX8_wants_7 kb_8 ?_
  refine G.icmp_ne 15 dX8_wants_9 rfl (fun c => ?_) (fun c => ?_)
  · replace h := (if_neg c).symm.trans h
    refine G.aload_n (i := 0) dX8_wants_15 rfl rfl ?_
    refine G.getR ck8 shM_0 0 rfl (by decide) q838 dX8_wants_16 ?_
    refine G.bipush dX8_wants_19 kb_44 ?_
    refine G.aload_n (i := 0) dX8_wants_21 rfl rfl ?_
    refine G.getR ck8 shM_0 0 rfl (by decide) q838 dX8_wants_22 ?_
    refine G.bipush dX8_wants_25 kb_43 ?_
    refine G.ialdc 43 shM_1 rfl (by decide) dX8_wants_27 ?_
    refine G.iadd dX8_wants_28 ?_
    refine G.iload_n (i := 1) dX8_wants_29 rfl rfl ?_
    obtain ⟨μ1, hv, h⟩ := bd h
    obtain ⟨hb, rfl⟩ := aput_some hv
    refine G.iast shM_1 hb dX8_wants_30 ?_
    refine G.aload_n (i := 0) dX8_wants_31 rfl rfl ?_
    refine G.getR ck8 shM_0 0 rfl (by decide) q838 dX8_wants_32 ?_
    refine G.bipush dX8_wants_35 kb_43 ?_
    refine G.dup2 dX8_wants_37 ?_
    refine G.ialdc 43 shM_1 rfl (by decide) dX8_wants_38 ?_
    refine G.iconst dX8_wants_39 ki_1 ?_
    refine G.iadd dX8_wants_40 ?_
    replace h := bnd_mp h
    refine G.iastc 43 shM_1 rfl (by decide) dX8_wants_41 ?_
    refine G.aload_n (i := 0) dX8_wants_42 rfl rfl ?_
    refine G.getR ck8 shM_0 0 rfl (by decide) q838 dX8_wants_43 ?_
    refine G.bipush dX8_wants_46 kb_43 ?_
    refine G.ialdc 43 shM_1 rfl (by decide) dX8_wants_48 ?_
    cases h
    exact G.iret dX8_wants_49 rfl
  · replace h := (if_pos c).symm.trans h
    refine G.bipush dX8_wants_12 kb_m3 ?_
    cases h
    exact G.iret dX8_wants_14 rfl
set_option maxRecDepth 100000 in
theorem eb_mm_drops_69 {o1 : Option PV} {o2 : Option PV} {μ : Mem} {res : (Int × Mem)} (h : mm_drops_69 μ = some res) : G shM l D ad ca YX8_drops 69 [some (.inr 0), o1, o2] [] μ (some (.inl res.1)) res.2 := by
  rw [mm_drops_69] at h
  refine G.aload_n (i := 0) dX8_drops_69 rfl rfl ?_
  refine G.getR ck8 shM_0 0 rfl (by decide) q838 dX8_drops_70 ?_
  refine G.bipush dX8_drops_73 kb_35 ?_
  refine G.aload_n (i := 0) dX8_drops_75 rfl rfl ?_
  refine G.getR ck8 shM_0 0 rfl (by decide) q838 dX8_drops_76 ?_
  refine G.bipush dX8_drops_79 kb_34 ?_
  refine G.ialdc 34 shM_1 rfl (by decide) dX8_drops_81 ?_
  refine G.iadd dX8_drops_82 ?_
  refine G.iconst dX8_drops_83 ki_0 ?_
  obtain ⟨μ3, hv, h⟩ := bd h
  obtain ⟨hb, rfl⟩ := aput_some hv
  refine G.iast shM_1 hb dX8_drops_84 ?_
  refine G.iconst dX8_drops_85 ki_0 ?_
  cases h
  exact G.iret dX8_drops_86 rfl
set_option maxRecDepth 100000 in
theorem eb_mm_drops_32 : ∀ (n : Nat) (x2 : Int) (o1 : Option PV) (μ : Mem) (res : (Int × Mem)), mm_drops_32 n x2 μ = some res → G shM l D ad ca YX8_drops 32 [some (.inr 0), o1, some (.inl x2)] [] μ (some (.inl res.1)) res.2 := by
  intro n
  induction n with
  | zero =>
    intro x2 o1 μ res h
    rw [mm_drops_32] at h
    cases h
  | succ n ih =>
    intro x2 o1 μ res h
    rw [mm_drops_32] at h
    refine G.iload_n (i := 2) dX8_drops_32 rfl rfl ?_
    refine G.aload_n (i := 0) dX8_drops_33 rfl rfl ?_
    refine G.getR ck8 shM_0 0 rfl (by decide) q838 dX8_drops_34 ?_
    refine G.bipush dX8_drops_37 kb_34 ?_
    refine G.ialdc 34 shM_1 rfl (by decide) dX8_drops_39 ?_
    refine G.icmp_ge 69 dX8_drops_40 rfl (fun c => ?_) (fun c => ?_)
    · replace h := (if_pos c).symm.trans h
      exact eb_mm_drops_69  h
    · replace h := (if_neg c).symm.trans h
      refine G.aload_n (i := 0) dX8_drops_43 rfl rfl ?_
      refine G.getR ck8 shM_0 0 rfl (by decide) q838 dX8_drops_44 ?_
      refine G.bipush dX8_drops_47 kb_35 ?_
      refine G.iload_n (i := 2) dX8_drops_49 rfl rfl ?_
      refine G.iadd dX8_drops_50 ?_
      refine G.aload_n (i := 0) dX8_drops_51 rfl rfl ?_
      refine G.getR ck8 shM_0 0 rfl (by decide) q838 dX8_drops_52 ?_
      refine G.bipush dX8_drops_55 kb_35 ?_
      refine G.iload_n (i := 2) dX8_drops_57 rfl rfl ?_
      refine G.iadd dX8_drops_58 ?_
      refine G.iconst dX8_drops_59 ki_1 ?_
      refine G.iadd dX8_drops_60 ?_
      obtain ⟨v4, hv, h⟩ := bd h
      obtain ⟨hb, rfl⟩ := aget_some hv
      refine G.iald shM_1 hb dX8_drops_61 ?_
      obtain ⟨μ5, hv, h⟩ := bd h
      obtain ⟨hb, rfl⟩ := aput_some hv
      refine G.iast shM_1 hb dX8_drops_62 ?_
      replace h := bnd_mp h
      refine G.iinc dX8_drops_63 rfl (Nat.le_of_ble_eq_true rfl) ?_
      refine G.goto 32 dX8_drops_66 rfl ?_
      exact ih _ _ _ _ h
set_option maxRecDepth 100000 in
theorem e_mm_drops {a1 : Int} {μ : Mem} {res : (Int × Mem)} (h : mm_drops a1 μ = some res) : GM shM l D ad ca YX8_drops [.inr 0, .inl a1] μ (some (.inl res.1)) res.2 := by
  refine GM.of (L := [some (.inr 0), some (.inl a1), none]) (by decide +kernel) rfl (Nat.le_of_ble_eq_true rfl) ?_
  rw [mm_drops] at h
  refine G.iload_n (i := 1) dX8_drops_0 rfl rfl ?_
  refine G.iconst dX8_drops_1 ki_0 ?_
  refine G.aload_n (i := 0) dX8_drops_2 rfl rfl ?_
  refine G.getR ck8 shM_0 0 rfl (by decide) q838 dX8_drops_3 ?_
  refine G.bipush dX8_drops_6 kb_34 ?_
  refine G.ialdc 34 shM_1 rfl (by decide) dX8_drops_8 ?_
  refine G.iconst dX8_drops_9 ki_1 ?_
  refine G.isub dX8_drops_10 ?_
  obtain ⟨v1, hv, h⟩ := bd h
  refine G.callS (e_mm_in hv) cs_X8_drops_X8_in rfl (Nat.le_of_ble_eq_true rfl) q904 q905 dX8_drops_11 ?_
  refine G.if_ne 19 dX8_drops_14 rfl (fun c => ?_) (fun c => ?_)
  · replace h := (if_neg c).symm.trans h
    refine G.aload_n (i := 0) dX8_drops_19 rfl rfl ?_
    refine G.getR ck8 shM_0 0 rfl (by decide) q838 dX8_drops_20 ?_
    refine G.bipush dX8_drops_23 kb_34 ?_
    refine G.dup2 dX8_drops_25 ?_
    refine G.ialdc 34 shM_1 rfl (by decide) dX8_drops_26 ?_
    refine G.iconst dX8_drops_27 ki_1 ?_
    refine G.isub dX8_drops_28 ?_
    replace h := bnd_mp h
    refine G.iastc 34 shM_1 rfl (by decide) dX8_drops_29 ?_
    refine G.iload_n (i := 1) dX8_drops_30 rfl rfl ?_
    refine G.istore_n (i := 2) dX8_drops_31 rfl (Nat.le_of_ble_eq_true rfl) ?_
    exact eb_mm_drops_32  _ _ _ _ _ h
  · replace h := (if_pos c).symm.trans h
    refine G.iconst dX8_drops_17 ki_m1 ?_
    cases h
    exact G.iret dX8_drops_18 rfl
set_option maxRecDepth 100000 in
theorem eb_mm_number_81 {x1 : Int} {μ : Mem} {res : (Int × Mem)} (h : mm_number_81 x1 μ = some res) : G shM l D ad ca YX8_number 81 [some (.inr 0), some (.inl x1)] [] μ (some (.inl res.1)) res.2 := by
  rw [mm_number_81] at h
  refine G.iload_n (i := 1) dX8_number_81 rfl rfl ?_
  cases h
  exact G.iret dX8_number_82 rfl
set_option maxRecDepth 100000 in
theorem eb_mm_number_12 : ∀ (n : Nat) (x1 : Int) (μ : Mem) (res : (Int × Mem)), mm_number_12 n x1 μ = some res → G shM l D ad ca YX8_number 12 [some (.inr 0), some (.inl x1)] [] μ (some (.inl res.1)) res.2 := by
  intro n
  induction n with
  | zero =>
    intro x1 μ res h
    rw [mm_number_12] at h
    cases h
  | succ n ih =>
    intro x1 μ res h
    rw [mm_number_12] at h
    refine G.iload_n (i := 1) dX8_number_12 rfl rfl ?_
    refine G.if_le 81 dX8_number_13 rfl (fun c => ?_) (fun c => ?_)
    · replace h := (if_pos c).symm.trans h
      exact eb_mm_number_81  h
    · replace h := (if_neg c).symm.trans h
      refine G.aload_n (i := 0) dX8_number_16 rfl rfl ?_
      refine G.bipush dX8_number_17 kb_48 ?_
      refine G.bipush dX8_number_19 kb_57 ?_
      obtain ⟨v3, hv, h⟩ := bd h
      refine G.callV (e_mm_isNext hv) cs_X8_number_X8_isNext ck8 shM_0 rfl rfl (Nat.le_of_ble_eq_true rfl) q1037 q1039 q49 dX8_number_21 ?_
      refine G.if_eq 81 dX8_number_24 rfl (fun c => ?_) (fun c => ?_)
      · replace h := (if_pos c).symm.trans h
        exact eb_mm_number_81  h
      · replace h := (if_neg c).symm.trans h
        refine G.bipush dX8_number_27 kb_10 ?_
        refine G.iload_n (i := 1) dX8_number_29 rfl rfl ?_
        refine G.imul dX8_number_30 ?_
        refine G.aload_n (i := 0) dX8_number_31 rfl rfl ?_
        refine G.getR ck8 shM_0 6 rfl (by decide) q844 dX8_number_32 ?_
        refine G.aload_n (i := 0) dX8_number_35 rfl rfl ?_
        refine G.getI ck8 shM_0 14 rfl (by decide) q852 dX8_number_36 ?_
        obtain ⟨v4, hv, h⟩ := bd h
        obtain ⟨hb, rfl⟩ := aget_some hv
        refine G.iald shM_5 hb dX8_number_39 ?_
        refine G.iadd dX8_number_40 ?_
        refine G.bipush dX8_number_41 kb_48 ?_
        refine G.isub dX8_number_43 ?_
        refine G.sipush dX8_number_44 ks_200 ?_
        refine G.icmp_ge 81 dX8_number_47 rfl (fun c => ?_) (fun c => ?_)
        · replace h := (if_pos c).symm.trans h
          exact eb_mm_number_81  h
        · replace h := (if_neg c).symm.trans h
          refine G.bipush dX8_number_50 kb_10 ?_
          refine G.iload_n (i := 1) dX8_number_52 rfl rfl ?_
          refine G.imul dX8_number_53 ?_
          refine G.aload_n (i := 0) dX8_number_54 rfl rfl ?_
          refine G.getR ck8 shM_0 6 rfl (by decide) q844 dX8_number_55 ?_
          refine G.aload_n (i := 0) dX8_number_58 rfl rfl ?_
          refine G.getI ck8 shM_0 14 rfl (by decide) q852 dX8_number_59 ?_
          obtain ⟨v5, hv, h⟩ := bd h
          obtain ⟨hb, rfl⟩ := aget_some hv
          refine G.iald shM_5 hb dX8_number_62 ?_
          refine G.iadd dX8_number_63 ?_
          refine G.bipush dX8_number_64 kb_48 ?_
          refine G.isub dX8_number_66 ?_
          replace h := bnd_mp h
          refine G.istore_n (i := 1) dX8_number_67 rfl (Nat.le_of_ble_eq_true rfl) ?_
          refine G.aload_n (i := 0) dX8_number_68 rfl rfl ?_
          refine G.dup dX8_number_69 ?_
          refine G.getI ck8 shM_0 14 rfl (by decide) q852 dX8_number_70 ?_
          refine G.iconst dX8_number_73 ki_1 ?_
          refine G.iadd dX8_number_74 ?_
          replace h := bnd_mp h
          refine G.putI ck8 shM_0 14 rfl (by decide) q852 rfl rfl rfl dX8_number_75 ?_
          refine G.goto 12 dX8_number_78 rfl ?_
          exact ih _ _ _ h
set_option maxRecDepth 100000 in
theorem e_mm_number {μ : Mem} {res : (Int × Mem)} (h : mm_number μ = some res) : GM shM l D ad ca YX8_number [.inr 0] μ (some (.inl res.1)) res.2 := by
  refine GM.of (L := [some (.inr 0), none]) (by decide +kernel) rfl (Nat.le_of_ble_eq_true rfl) ?_
  rw [mm_number] at h
  refine G.aload_n (i := 0) dX8_number_0 rfl rfl ?_
  refine G.bipush dX8_number_1 kb_48 ?_
  refine G.bipush dX8_number_3 kb_57 ?_
  obtain ⟨p1, hv, h⟩ := bd h
  refine G.callV (e_mm_sign hv) cs_X8_number_X8_sign ck8 shM_0 rfl rfl (Nat.le_of_ble_eq_true rfl) q1045 q1047 q51 dX8_number_5 ?_
  refine G.bipush dX8_number_8 kb_48 ?_
  refine G.isub dX8_number_10 ?_
  replace h := bnd_mp h
  refine G.istore_n (i := 1) dX8_number_11 rfl (Nat.le_of_ble_eq_true rfl) ?_
  exact eb_mm_number_12  _ _ _ _ h
set_option maxRecDepth 100000 in
theorem e_mm_numberOf {a1 : Int} {μ : Mem} {res : Int} (h : mm_numberOf a1 μ = some res) : GM shM l D ad ca YX8_numberOf [.inr 0, .inl a1] μ (some (.inl res)) μ := by
  refine GM.of (L := [some (.inr 0), some (.inl a1)]) (by decide +kernel) rfl (Nat.le_of_ble_eq_true rfl) ?_
  rw [mm_numberOf] at h
  refine G.aload_n (i := 0) dX8_numberOf_0 rfl rfl ?_
  refine G.getR ck8 shM_0 0 rfl (by decide) q838 dX8_numberOf_1 ?_
  refine G.bipush dX8_numberOf_4 kb_9 ?_
  refine G.iconst dX8_numberOf_6 ki_2 ?_
  refine G.iload_n (i := 1) dX8_numberOf_7 rfl rfl ?_
  refine G.imul dX8_numberOf_8 ?_
  refine G.iadd dX8_numberOf_9 ?_
  obtain ⟨v1, hv, h⟩ := bd h
  obtain ⟨hb, rfl⟩ := aget_some hv
  refine G.iald shM_1 hb dX8_numberOf_10 ?_
  cases h
  exact G.iret dX8_numberOf_11 rfl
set_option maxRecDepth 100000 in
theorem eb_mm_find_30 {o1 : Option PV} {o2 : Option PV} {μ : Mem} {res : Int} (h : mm_find_30 μ = some res) : G shM l D ad ca YX8_find 30 [some (.inr 0), o1, o2] [] μ (some (.inl res)) μ := by
  rw [mm_find_30] at h
  refine G.bipush dX8_find_30 kb_m5 ?_
  cases h
  exact G.iret dX8_find_32 rfl
set_option maxRecDepth 100000 in
theorem eb_mm_find_22 {x2 : Int} {o1 : Option PV} {μ : Mem} {res : Int} (h : mm_find_22 x2 μ = some res) : G shM l D ad ca YX8_find 22 [some (.inr 0), o1, some (.inl x2)] [] μ (some (.inl res)) μ := by
  rw [mm_find_22] at h
  refine G.iload_n (i := 2) dX8_find_22 rfl rfl ?_
  cases h
  exact G.iret dX8_find_23 rfl
set_option maxRecDepth 100000 in
theorem eb_mm_find_2 : ∀ (n : Nat) (x1 : Int) (x2 : Int) (μ : Mem) (res : Int), mm_find_2 n x1 x2 μ = some res → G shM l D ad ca YX8_find 2 [some (.inr 0), some (.inl x1), some (.inl x2)] [] μ (some (.inl res)) μ := by
  intro n
  induction n with
  | zero =>
    intro x1 x2 μ res h
    rw [mm_find_2] at h
    cases h
  | succ n ih =>
    intro x1 x2 μ res h
    rw [mm_find_2] at h
    refine G.iload_n (i := 2) dX8_find_2 rfl rfl ?_
    refine G.aload_n (i := 0) dX8_find_3 rfl rfl ?_
    refine G.getR ck8 shM_0 0 rfl (by decide) q838 dX8_find_4 ?_
    refine G.bipush dX8_find_7 kb_8 ?_
    refine G.ialdc 8 shM_1 rfl (by decide) dX8_find_9 ?_
    refine G.icmp_ge 30 dX8_find_10 rfl (fun c => ?_) (fun c => ?_)
    · replace h := (if_pos c).symm.trans h
      exact eb_mm_find_30  h
    · replace h := (if_neg c).symm.trans h
      refine G.aload_n (i := 0) dX8_find_13 rfl rfl ?_
      refine G.iload_n (i := 2) dX8_find_14 rfl rfl ?_
      obtain ⟨v1, hv, h⟩ := bd h
      refine G.callV (e_mm_numberOf hv) cs_X8_find_X8_numberOf ck8 shM_0 rfl rfl (Nat.le_of_ble_eq_true rfl) q938 q940 q35 dX8_find_15 ?_
      refine G.iload_n (i := 1) dX8_find_18 rfl rfl ?_
      refine G.icmp_ne 24 dX8_find_19 rfl (fun c => ?_) (fun c => ?_)
      · replace h := (if_neg c).symm.trans h
        replace h := bnd_mp h
        refine G.iinc dX8_find_24 rfl (Nat.le_of_ble_eq_true rfl) ?_
        refine G.goto 2 dX8_find_27 rfl ?_
        exact ih _ _ _ _ h
      · replace h := (if_pos c).symm.trans h
        exact eb_mm_find_22  h
set_option maxRecDepth 100000 in
theorem e_mm_find {a1 : Int} {μ : Mem} {res : Int} (h : mm_find a1 μ = some res) : GM shM l D ad ca YX8_find [.inr 0, .inl a1] μ (some (.inl res)) μ := by
  refine GM.of (L := [some (.inr 0), some (.inl a1), none]) (by decide +kernel) rfl (Nat.le_of_ble_eq_true rfl) ?_
  rw [mm_find] at h
  refine G.iconst dX8_find_0 ki_0 ?_
  refine G.istore_n (i := 2) dX8_find_1 rfl (Nat.le_of_ble_eq_true rfl) ?_
  exact eb_mm_find_2  _ _ _ _ _ h
set_option maxRecDepth 100000 in
theorem eb_mm_pours_26 {o1 : Option PV} {o2 : Option PV} {o3 : Option PV} {o4 : Option PV} {o5 : Option PV} {o6 : Option PV} {μ : Mem} {res : (Int × Mem)} (h : mm_pours_26 μ = some res) : G shM l D ad ca YX8_pours 26 [some (.inr 0), o1, o2, o3, o4, o5, o6] [] μ (some (.inl res.1)) res.2 := by
  rw [mm_pours_26] at h
  refine G.iconst dX8_pours_26 ki_m1 ?_
  cases h
  exact G.iret dX8_pours_27 rfl
set_option maxRecDepth 100000 in
theorem e_mm_pours {a1 : Int} {a2 : Int} {μ : Mem} {res : (Int × Mem)} (h : mm_pours a1 a2 μ = some res) : GM shM l D ad ca YX8_pours [.inr 0, .inl a1, .inl a2] μ (some (.inl res.1)) res.2 := by
  refine GM.of (L := [some (.inr 0), some (.inl a1), some (.inl a2), none, none, none, none]) (by decide +kernel) rfl (Nat.le_of_ble_eq_true rfl) ?_
  rw [mm_pours] at h
  refine G.aload_n (i := 0) dX8_pours_0 rfl rfl ?_
  refine G.iload_n (i := 1) dX8_pours_1 rfl rfl ?_
  obtain ⟨v1, hv, h⟩ := bd h
  refine G.callV (e_mm_find hv) cs_X8_pours_X8_find ck8 shM_0 rfl rfl (Nat.le_of_ble_eq_true rfl) q934 q936 q34 dX8_pours_2 ?_
  refine G.istore_n (i := 3) dX8_pours_5 rfl (Nat.le_of_ble_eq_true rfl) ?_
  refine G.aload_n (i := 0) dX8_pours_6 rfl rfl ?_
  refine G.iload_n (i := 2) dX8_pours_7 rfl rfl ?_
  obtain ⟨v2, hv, h⟩ := bd h
  refine G.callV (e_mm_find hv) cs_X8_pours_X8_find ck8 shM_0 rfl rfl (Nat.le_of_ble_eq_true rfl) q934 q936 q34 dX8_pours_8 ?_
  refine G.istore dX8_pours_11 (Nat.le_of_ble_eq_true rfl) ?_
  refine G.iload_n (i := 3) dX8_pours_13 rfl rfl ?_
  refine G.bipush dX8_pours_14 kb_m5 ?_
  refine G.icmp_eq 26 dX8_pours_16 rfl (fun c => ?_) (fun c => ?_)
  · replace h := (if_pos c).symm.trans h
    exact eb_mm_pours_26  h
  · replace h := (if_neg c).symm.trans h
    refine G.iload dX8_pours_19 rfl ?_
    refine G.bipush dX8_pours_21 kb_m5 ?_
    refine G.icmp_ne 28 dX8_pours_23 rfl (fun c => ?_) (fun c => ?_)
    · replace h := (if_neg c).symm.trans h
      refine G.iload_n (i := 3) dX8_pours_28 rfl rfl ?_
      refine G.iload dX8_pours_29 rfl ?_
      refine G.icmp_ne 37 dX8_pours_31 rfl (fun c => ?_) (fun c => ?_)
      · replace h := (if_neg c).symm.trans h
        refine G.aload_n (i := 0) dX8_pours_37 rfl rfl ?_
        refine G.iload_n (i := 3) dX8_pours_38 rfl rfl ?_
        obtain ⟨v3, hv, h⟩ := bd h
        refine G.callV (e_mm_mixIn hv) cs_X8_pours_X8_mixIn ck8 shM_0 rfl rfl (Nat.le_of_ble_eq_true rfl) q942 q944 q36 dX8_pours_39 ?_
        refine G.if_ne 48 dX8_pours_42 rfl (fun c => ?_) (fun c => ?_)
        · replace h := (if_neg c).symm.trans h
          refine G.aload_n (i := 0) dX8_pours_48 rfl rfl ?_
          refine G.iload_n (i := 3) dX8_pours_49 rfl rfl ?_
          obtain ⟨v4, hv, h⟩ := bd h
          refine G.callV (e_mm_mixIn hv) cs_X8_pours_X8_mixIn ck8 shM_0 rfl rfl (Nat.le_of_ble_eq_true rfl) q942 q944 q36 dX8_pours_50 ?_
          refine G.aload_n (i := 0) dX8_pours_53 rfl rfl ?_
          refine G.iload dX8_pours_54 rfl ?_
          obtain ⟨v5, hv, h⟩ := bd h
          refine G.callV (e_mm_mixIn hv) cs_X8_pours_X8_mixIn ck8 shM_0 rfl rfl (Nat.le_of_ble_eq_true rfl) q942 q944 q36 dX8_pours_56 ?_
          obtain ⟨v6, hv, h⟩ := bd h
          refine G.callS (e_mm_mixed hv) cs_X8_pours_X8_mixed rfl (Nat.le_of_ble_eq_true rfl) q946 q947 dX8_pours_59 ?_
          refine G.istore dX8_pours_62 (Nat.le_of_ble_eq_true rfl) ?_
          refine G.aload_n (i := 0) dX8_pours_64 rfl rfl ?_
          refine G.iload_n (i := 3) dX8_pours_65 rfl rfl ?_
          obtain ⟨v7, hv, h⟩ := bd h
          refine G.callV (e_mm_mixIn hv) cs_X8_pours_X8_mixIn ck8 shM_0 rfl rfl (Nat.le_of_ble_eq_true rfl) q942 q944 q36 dX8_pours_66 ?_
          obtain ⟨v8, hv, h⟩ := bd h
          refine G.callS (e_mm_units hv) cs_X8_pours_X8_units rfl (Nat.le_of_ble_eq_true rfl) q911 q912 dX8_pours_69 ?_
          refine G.aload_n (i := 0) dX8_pours_72 rfl rfl ?_
          refine G.iload dX8_pours_73 rfl ?_
          obtain ⟨v9, hv, h⟩ := bd h
          refine G.callV (e_mm_mixIn hv) cs_X8_pours_X8_mixIn ck8 shM_0 rfl rfl (Nat.le_of_ble_eq_true rfl) q942 q944 q36 dX8_pours_75 ?_
          obtain ⟨v10, hv, h⟩ := bd h
          refine G.callS (e_mm_units hv) cs_X8_pours_X8_units rfl (Nat.le_of_ble_eq_true rfl) q911 q912 dX8_pours_78 ?_
          refine G.iadd dX8_pours_81 ?_
          refine G.iload dX8_pours_82 rfl ?_
          obtain ⟨v11, hv, h⟩ := bd h
          refine G.callS (e_mm_units hv) cs_X8_pours_X8_units rfl (Nat.le_of_ble_eq_true rfl) q911 q912 dX8_pours_84 ?_
          refine G.isub dX8_pours_87 ?_
          replace h := bnd_mp h
          refine G.istore dX8_pours_88 (Nat.le_of_ble_eq_true rfl) ?_
          refine G.aload_n (i := 0) dX8_pours_90 rfl rfl ?_
          refine G.getR ck8 shM_0 0 rfl (by decide) q838 dX8_pours_91 ?_
          refine G.bipush dX8_pours_94 kb_9 ?_
          refine G.iconst dX8_pours_96 ki_2 ?_
          refine G.iload_n (i := 3) dX8_pours_97 rfl rfl ?_
          refine G.imul dX8_pours_98 ?_
          refine G.iadd dX8_pours_99 ?_
          refine G.iconst dX8_pours_100 ki_1 ?_
          refine G.iadd dX8_pours_101 ?_
          refine G.iconst dX8_pours_102 ki_0 ?_
          obtain ⟨μ13, hv, h⟩ := bd h
          obtain ⟨hb, rfl⟩ := aput_some hv
          refine G.iast shM_1 hb dX8_pours_103 ?_
          refine G.aload_n (i := 0) dX8_pours_104 rfl rfl ?_
          refine G.getR ck8 shM_0 0 rfl (by decide) q838 dX8_pours_105 ?_
          refine G.bipush dX8_pours_108 kb_9 ?_
          refine G.iconst dX8_pours_110 ki_2 ?_
          refine G.iload dX8_pours_111 rfl ?_
          refine G.imul dX8_pours_113 ?_
          refine G.iadd dX8_pours_114 ?_
          refine G.iconst dX8_pours_115 ki_1 ?_
          refine G.iadd dX8_pours_116 ?_
          refine G.iload dX8_pours_117 rfl ?_
          obtain ⟨μ14, hv, h⟩ := bd h
          obtain ⟨hb, rfl⟩ := aput_some hv
          refine G.iast shM_1 hb dX8_pours_119 ?_
          refine G.aload_n (i := 0) dX8_pours_120 rfl rfl ?_
          refine G.getR ck8 shM_0 0 rfl (by decide) q838 dX8_pours_121 ?_
          refine G.bipush dX8_pours_124 kb_53 ?_
          refine G.dup2 dX8_pours_126 ?_
          refine G.ialdc 53 shM_1 rfl (by decide) dX8_pours_127 ?_
          refine G.iload dX8_pours_128 rfl ?_
          refine G.iadd dX8_pours_130 ?_
          replace h := bnd_mp h
          refine G.iastc 53 shM_1 rfl (by decide) dX8_pours_131 ?_
          refine G.iload dX8_pours_132 rfl ?_
          cases h
          exact G.iret dX8_pours_134 rfl
        · replace h := (if_pos c).symm.trans h
          refine G.bipush dX8_pours_45 kb_m5 ?_
          cases h
          exact G.iret dX8_pours_47 rfl
      · replace h := (if_pos c).symm.trans h
        refine G.bipush dX8_pours_34 kb_m2 ?_
        cases h
        exact G.iret dX8_pours_36 rfl
    · replace h := (if_pos c).symm.trans h
      exact eb_mm_pours_26  h
set_option maxRecDepth 100000 in
theorem eb_mm_priceOf_38 {x2 : Int} {o1 : Option PV} {o3 : Option PV} {o4 : Option PV} {μ : Mem} {res : Int} (h : mm_priceOf_38 x2 μ = some res) : G shM l D ad ca YX8_priceOf 38 [some (.inr 0), o1, some (.inl x2), o3, o4] [] μ (some (.inl res)) μ := by
  rw [mm_priceOf_38] at h
  refine G.iload_n (i := 2) dX8_priceOf_38 rfl rfl ?_
  cases h
  exact G.iret dX8_priceOf_39 rfl
set_option maxRecDepth 100000 in
theorem eb_mm_priceOf_7 : ∀ (n : Nat) (x2 : Int) (x3 : Int) (x4 : Int) (o1 : Option PV) (μ : Mem) (res : Int), mm_priceOf_7 n x2 x3 x4 μ = some res → G shM l D ad ca YX8_priceOf 7 [some (.inr 0), o1, some (.inl x2), some (.inl x3), some (.inl x4)] [] μ (some (.inl res)) μ := by
  intro n
  induction n with
  | zero =>
    intro x2 x3 x4 o1 μ res h
    rw [mm_priceOf_7] at h
    cases h
  | succ n ih =>
    intro x2 x3 x4 o1 μ res h
    rw [mm_priceOf_7] at h
    refine G.iload dX8_priceOf_7 rfl ?_
    refine G.bipush dX8_priceOf_9 kb_8 ?_
    refine G.icmp_ge 38 dX8_priceOf_11 rfl (fun c => ?_) (fun c => ?_)
    · replace h := (if_pos c).symm.trans h
      exact eb_mm_priceOf_38  h
    · replace h := (if_neg c).symm.trans h
      refine G.iload_n (i := 2) dX8_priceOf_14 rfl rfl ?_
      refine G.iload_n (i := 3) dX8_priceOf_15 rfl rfl ?_
      refine G.iconst dX8_priceOf_16 ki_3 ?_
      refine G.irem dX8_priceOf_17 (by decide) ?_
      refine G.aload_n (i := 0) dX8_priceOf_18 rfl rfl ?_
      refine G.getR ck8 shM_0 0 rfl (by decide) q838 dX8_priceOf_19 ?_
      refine G.iload dX8_priceOf_22 rfl ?_
      obtain ⟨v1, hv, h⟩ := bd h
      obtain ⟨hb, rfl⟩ := aget_some hv
      refine G.iald shM_1 hb dX8_priceOf_24 ?_
      refine G.imul dX8_priceOf_25 ?_
      refine G.iadd dX8_priceOf_26 ?_
      replace h := bnd_mp h
      refine G.istore_n (i := 2) dX8_priceOf_27 rfl (Nat.le_of_ble_eq_true rfl) ?_
      refine G.iload_n (i := 3) dX8_priceOf_28 rfl rfl ?_
      refine G.iconst dX8_priceOf_29 ki_3 ?_
      refine G.idiv dX8_priceOf_30 (by decide) ?_
      replace h := bnd_mp h
      refine G.istore_n (i := 3) dX8_priceOf_31 rfl (Nat.le_of_ble_eq_true rfl) ?_
      replace h := bnd_mp h
      refine G.iinc dX8_priceOf_32 rfl (Nat.le_of_ble_eq_true rfl) ?_
      refine G.goto 7 dX8_priceOf_35 rfl ?_
      exact ih _ _ _ _ _ _ h
set_option maxRecDepth 100000 in
theorem e_mm_priceOf {a1 : Int} {μ : Mem} {res : Int} (h : mm_priceOf a1 μ = some res) : GM shM l D ad ca YX8_priceOf [.inr 0, .inl a1] μ (some (.inl res)) μ := by
  refine GM.of (L := [some (.inr 0), some (.inl a1), none, none, none]) (by decide +kernel) rfl (Nat.le_of_ble_eq_true rfl) ?_
  rw [mm_priceOf] at h
  refine G.iconst dX8_priceOf_0 ki_0 ?_
  refine G.istore_n (i := 2) dX8_priceOf_1 rfl (Nat.le_of_ble_eq_true rfl) ?_
  refine G.iload_n (i := 1) dX8_priceOf_2 rfl rfl ?_
  refine G.istore_n (i := 3) dX8_priceOf_3 rfl (Nat.le_of_ble_eq_true rfl) ?_
  refine G.iconst dX8_priceOf_4 ki_0 ?_
  refine G.istore dX8_priceOf_5 (Nat.le_of_ble_eq_true rfl) ?_
  exact eb_mm_priceOf_7  _ _ _ _ _ _ _ h
set_option maxRecDepth 100000 in
theorem e_mm_buysMore {a1 : Int} {μ : Mem} {res : (Int × Mem)} (h : mm_buysMore a1 μ = some res) : GM shM l D ad ca YX8_buysMore [.inr 0, .inl a1] μ (some (.inl res.1)) res.2 := by
  refine GM.of (L := [some (.inr 0), some (.inl a1), none, none, none]) (by decide +kernel) rfl (Nat.le_of_ble_eq_true rfl) ?_
  rw [mm_buysMore] at h
  refine G.aload_n (i := 0) dX8_buysMore_0 rfl rfl ?_
  refine G.iload_n (i := 1) dX8_buysMore_1 rfl rfl ?_
  obtain ⟨v1, hv, h⟩ := bd h
  refine G.callV (e_mm_find hv) cs_X8_buysMore_X8_find ck8 shM_0 rfl rfl (Nat.le_of_ble_eq_true rfl) q934 q936 q34 dX8_buysMore_2 ?_
  refine G.istore_n (i := 2) dX8_buysMore_5 rfl (Nat.le_of_ble_eq_true rfl) ?_
  refine G.iload_n (i := 2) dX8_buysMore_6 rfl rfl ?_
  refine G.bipush dX8_buysMore_7 kb_m5 ?_
  refine G.icmp_ne 14 dX8_buysMore_9 rfl (fun c => ?_) (fun c => ?_)
  · replace h := (if_neg c).symm.trans h
    refine G.aload_n (i := 0) dX8_buysMore_14 rfl rfl ?_
    refine G.iload_n (i := 2) dX8_buysMore_15 rfl rfl ?_
    obtain ⟨v2, hv, h⟩ := bd h
    refine G.callV (e_mm_mixIn hv) cs_X8_buysMore_X8_mixIn ck8 shM_0 rfl rfl (Nat.le_of_ble_eq_true rfl) q942 q944 q36 dX8_buysMore_16 ?_
    refine G.istore_n (i := 3) dX8_buysMore_19 rfl (Nat.le_of_ble_eq_true rfl) ?_
    refine G.iload_n (i := 3) dX8_buysMore_20 rfl rfl ?_
    refine G.if_ne 27 dX8_buysMore_21 rfl (fun c => ?_) (fun c => ?_)
    · replace h := (if_neg c).symm.trans h
      refine G.iload_n (i := 3) dX8_buysMore_27 rfl rfl ?_
      refine G.iload_n (i := 3) dX8_buysMore_28 rfl rfl ?_
      obtain ⟨v3, hv, h⟩ := bd h
      refine G.callS (e_mm_mixed hv) cs_X8_buysMore_X8_mixed rfl (Nat.le_of_ble_eq_true rfl) q946 q947 dX8_buysMore_29 ?_
      refine G.istore dX8_buysMore_32 (Nat.le_of_ble_eq_true rfl) ?_
      refine G.aload_n (i := 0) dX8_buysMore_34 rfl rfl ?_
      refine G.getR ck8 shM_0 0 rfl (by decide) q838 dX8_buysMore_35 ?_
      refine G.bipush dX8_buysMore_38 kb_9 ?_
      refine G.iconst dX8_buysMore_40 ki_2 ?_
      refine G.iload_n (i := 2) dX8_buysMore_41 rfl rfl ?_
      refine G.imul dX8_buysMore_42 ?_
      refine G.iadd dX8_buysMore_43 ?_
      refine G.iconst dX8_buysMore_44 ki_1 ?_
      refine G.iadd dX8_buysMore_45 ?_
      refine G.iload dX8_buysMore_46 rfl ?_
      obtain ⟨μ4, hv, h⟩ := bd h
      obtain ⟨hb, rfl⟩ := aput_some hv
      refine G.iast shM_1 hb dX8_buysMore_48 ?_
      refine G.aload_n (i := 0) dX8_buysMore_49 rfl rfl ?_
      refine G.getR ck8 shM_0 0 rfl (by decide) q838 dX8_buysMore_50 ?_
      refine G.bipush dX8_buysMore_53 kb_52 ?_
      refine G.dup2 dX8_buysMore_55 ?_
      refine G.ialdc 52 shM_1 rfl (by decide) dX8_buysMore_56 ?_
      refine G.iload_n (i := 3) dX8_buysMore_57 rfl rfl ?_
      obtain ⟨v5, hv, h⟩ := bd h
      refine G.callS (e_mm_units hv) cs_X8_buysMore_X8_units rfl (Nat.le_of_ble_eq_true rfl) q911 q912 dX8_buysMore_58 ?_
      refine G.iadd dX8_buysMore_61 ?_
      replace h := bnd_mp h
      refine G.iastc 52 shM_1 rfl (by decide) dX8_buysMore_62 ?_
      refine G.aload_n (i := 0) dX8_buysMore_63 rfl rfl ?_
      refine G.getR ck8 shM_0 0 rfl (by decide) q838 dX8_buysMore_64 ?_
      refine G.bipush dX8_buysMore_67 kb_56 ?_
      refine G.dup2 dX8_buysMore_69 ?_
      refine G.ialdc 56 shM_1 rfl (by decide) dX8_buysMore_70 ?_
      refine G.aload_n (i := 0) dX8_buysMore_71 rfl rfl ?_
      refine G.iload_n (i := 3) dX8_buysMore_72 rfl rfl ?_
      obtain ⟨v7, hv, h⟩ := bd h
      refine G.callV (e_mm_priceOf hv) cs_X8_buysMore_X8_priceOf ck8 shM_0 rfl rfl (Nat.le_of_ble_eq_true rfl) q914 q916 q30 dX8_buysMore_73 ?_
      refine G.iadd dX8_buysMore_76 ?_
      replace h := bnd_mp h
      refine G.iastc 56 shM_1 rfl (by decide) dX8_buysMore_77 ?_
      refine G.aload_n (i := 0) dX8_buysMore_78 rfl rfl ?_
      refine G.getR ck8 shM_0 0 rfl (by decide) q838 dX8_buysMore_79 ?_
      refine G.bipush dX8_buysMore_82 kb_53 ?_
      refine G.dup2 dX8_buysMore_84 ?_
      refine G.ialdc 53 shM_1 rfl (by decide) dX8_buysMore_85 ?_
      refine G.iconst dX8_buysMore_86 ki_2 ?_
      refine G.iload_n (i := 3) dX8_buysMore_87 rfl rfl ?_
      obtain ⟨v9, hv, h⟩ := bd h
      refine G.callS (e_mm_units hv) cs_X8_buysMore_X8_units rfl (Nat.le_of_ble_eq_true rfl) q911 q912 dX8_buysMore_88 ?_
      refine G.imul dX8_buysMore_91 ?_
      refine G.iload dX8_buysMore_92 rfl ?_
      obtain ⟨v10, hv, h⟩ := bd h
      refine G.callS (e_mm_units hv) cs_X8_buysMore_X8_units rfl (Nat.le_of_ble_eq_true rfl) q911 q912 dX8_buysMore_94 ?_
      refine G.isub dX8_buysMore_97 ?_
      refine G.iadd dX8_buysMore_98 ?_
      replace h := bnd_mp h
      refine G.iastc 53 shM_1 rfl (by decide) dX8_buysMore_99 ?_
      refine G.iload dX8_buysMore_100 rfl ?_
      cases h
      exact G.iret dX8_buysMore_102 rfl
    · replace h := (if_pos c).symm.trans h
      refine G.bipush dX8_buysMore_24 kb_m5 ?_
      cases h
      exact G.iret dX8_buysMore_26 rfl
  · replace h := (if_pos c).symm.trans h
    refine G.iconst dX8_buysMore_12 ki_m1 ?_
    cases h
    exact G.iret dX8_buysMore_13 rfl
set_option maxRecDepth 100000 in
theorem eb_mm_order_316 {s0 : Int} {o1 : Option PV} {o2 : Option PV} {o3 : Option PV} {o4 : Option PV} {μ : Mem} {res : (Int × Mem)} (h : mm_order_316 s0 μ = some res) : G shM l D ad ca YX8_order 316 [some (.inr 0), o1, o2, o3, o4] [.inl s0] μ (some (.inl res.1)) res.2 := by
  rw [mm_order_316] at h
  cases h
  exact G.iret dX8_order_316 rfl
set_option maxRecDepth 100000 in
theorem eb_mm_order_285 {s0 : Int} {o1 : Option PV} {o2 : Option PV} {o3 : Option PV} {o4 : Option PV} {μ : Mem} {res : (Int × Mem)} (h : mm_order_285 s0 μ = some res) : G shM l D ad ca YX8_order 285 [some (.inr 0), o1, o2, o3, o4] [.inl s0] μ (some (.inl res.1)) res.2 := by
  rw [mm_order_285] at h
  cases h
  exact G.iret dX8_order_285 rfl
set_option maxRecDepth 100000 in
theorem eb_mm_order_217 {s0 : Int} {o1 : Option PV} {o2 : Option PV} {o3 : Option PV} {o4 : Option PV} {μ : Mem} {res : (Int × Mem)} (h : mm_order_217 s0 μ = some res) : G shM l D ad ca YX8_order 217 [some (.inr 0), o1, o2, o3, o4] [.inl s0] μ (some (.inl res.1)) res.2 := by
  rw [mm_order_217] at h
  cases h
  exact G.iret dX8_order_217 rfl
set_option maxRecDepth 100000 in
theorem eb_mm_order_159 {s0 : Int} {o1 : Option PV} {o2 : Option PV} {o3 : Option PV} {o4 : Option PV} {μ : Mem} {res : (Int × Mem)} (h : mm_order_159 s0 μ = some res) : G shM l D ad ca YX8_order 159 [some (.inr 0), o1, o2, o3, o4] [.inl s0] μ (some (.inl res.1)) res.2 := by
  rw [mm_order_159] at h
  cases h
  exact G.iret dX8_order_159 rfl
set_option maxRecDepth 100000 in
theorem eb_mm_order_108 {s0 : Int} {o1 : Option PV} {o2 : Option PV} {o3 : Option PV} {o4 : Option PV} {μ : Mem} {res : (Int × Mem)} (h : mm_order_108 s0 μ = some res) : G shM l D ad ca YX8_order 108 [some (.inr 0), o1, o2, o3, o4] [.inl s0] μ (some (.inl res.1)) res.2 := by
  rw [mm_order_108] at h
  cases h
  exact G.iret dX8_order_108 rfl
set_option maxRecDepth 100000 in
theorem eb_mm_order_57 {s0 : Int} {o1 : Option PV} {o2 : Option PV} {o3 : Option PV} {o4 : Option PV} {μ : Mem} {res : (Int × Mem)} (h : mm_order_57 s0 μ = some res) : G shM l D ad ca YX8_order 57 [some (.inr 0), o1, o2, o3, o4] [.inl s0] μ (some (.inl res.1)) res.2 := by
  rw [mm_order_57] at h
  cases h
  exact G.iret dX8_order_57 rfl
set_option maxRecDepth 100000 in
theorem e_mm_order {a1 : Int} {μ : Mem} {res : (Int × Mem)} (h : mm_order a1 μ = some res) : GM shM l D ad ca YX8_order [.inr 0, .inl a1] μ (some (.inl res.1)) res.2 := by
  refine GM.of (L := [some (.inr 0), some (.inl a1), none, none, none]) (by decide +kernel) rfl (Nat.le_of_ble_eq_true rfl) ?_
  rw [mm_order] at h
  refine G.aload_n (i := 0) dX8_order_0 rfl rfl ?_
  refine G.bipush dX8_order_1 kb_106 ?_
  refine G.bipush dX8_order_3 kb_106 ?_
  obtain ⟨v1, hv, h⟩ := bd h
  refine G.callV (e_mm_isNext hv) cs_X8_order_X8_isNext ck8 shM_0 rfl rfl (Nat.le_of_ble_eq_true rfl) q1037 q1039 q49 dX8_order_5 ?_
  refine G.if_eq 58 dX8_order_8 rfl (fun c => ?_) (fun c => ?_)
  · replace h := (if_pos c).symm.trans h
    refine G.aload_n (i := 0) dX8_order_58 rfl rfl ?_
    refine G.bipush dX8_order_59 kb_114 ?_
    refine G.bipush dX8_order_61 kb_114 ?_
    obtain ⟨v2, hv, h⟩ := bd h
    refine G.callV (e_mm_isNext hv) cs_X8_order_X8_isNext ck8 shM_0 rfl rfl (Nat.le_of_ble_eq_true rfl) q1037 q1039 q49 dX8_order_63 ?_
    refine G.if_eq 109 dX8_order_66 rfl (fun c => ?_) (fun c => ?_)
    · replace h := (if_pos c).symm.trans h
      refine G.aload_n (i := 0) dX8_order_109 rfl rfl ?_
      refine G.bipush dX8_order_110 kb_119 ?_
      refine G.bipush dX8_order_112 kb_119 ?_
      obtain ⟨v3, hv, h⟩ := bd h
      refine G.callV (e_mm_isNext hv) cs_X8_order_X8_isNext ck8 shM_0 rfl rfl (Nat.le_of_ble_eq_true rfl) q1037 q1039 q49 dX8_order_114 ?_
      refine G.if_eq 160 dX8_order_117 rfl (fun c => ?_) (fun c => ?_)
      · replace h := (if_pos c).symm.trans h
        refine G.aload_n (i := 0) dX8_order_160 rfl rfl ?_
        refine G.bipush dX8_order_161 kb_100 ?_
        refine G.bipush dX8_order_163 kb_100 ?_
        obtain ⟨v4, hv, h⟩ := bd h
        refine G.callV (e_mm_isNext hv) cs_X8_order_X8_isNext ck8 shM_0 rfl rfl (Nat.le_of_ble_eq_true rfl) q1037 q1039 q49 dX8_order_165 ?_
        refine G.if_eq 218 dX8_order_168 rfl (fun c => ?_) (fun c => ?_)
        · replace h := (if_pos c).symm.trans h
          refine G.aload_n (i := 0) dX8_order_218 rfl rfl ?_
          refine G.bipush dX8_order_219 kb_112 ?_
          refine G.bipush dX8_order_221 kb_112 ?_
          obtain ⟨v5, hv, h⟩ := bd h
          refine G.callV (e_mm_isNext hv) cs_X8_order_X8_isNext ck8 shM_0 rfl rfl (Nat.le_of_ble_eq_true rfl) q1037 q1039 q49 dX8_order_223 ?_
          refine G.if_eq 286 dX8_order_226 rfl (fun c => ?_) (fun c => ?_)
          · replace h := (if_pos c).symm.trans h
            refine G.aload_n (i := 0) dX8_order_286 rfl rfl ?_
            refine G.bipush dX8_order_287 kb_109 ?_
            refine G.bipush dX8_order_289 kb_111 ?_
            refine G.bipush dX8_order_291 kb_114 ?_
            refine G.bipush dX8_order_293 kb_101 ?_
            obtain ⟨μ6, hv, h⟩ := bd h
            refine G.callV (e_mm_signs hv) cs_X8_order_X8_signs ck8 shM_0 rfl rfl (Nat.le_of_ble_eq_true rfl) q1041 q1043 q50 dX8_order_295 ?_
            refine G.aload_n (i := 0) dX8_order_298 rfl rfl ?_
            obtain ⟨p7, hv, h⟩ := bd h
            refine G.callV (e_mm_number hv) cs_X8_order_X8_number ck8 shM_0 rfl rfl (Nat.le_of_ble_eq_true rfl) q1056 q1058 q53 dX8_order_299 ?_
            replace h := bnd_mp h
            refine G.istore_n (i := 2) dX8_order_302 rfl (Nat.le_of_ble_eq_true rfl) ?_
            refine G.iload_n (i := 1) dX8_order_303 rfl rfl ?_
            refine G.if_eq 315 dX8_order_304 rfl (fun c => ?_) (fun c => ?_)
            · replace h := (if_pos c).symm.trans h
              refine G.iconst dX8_order_315 ki_0 ?_
              exact eb_mm_order_316  h
            · replace h := (if_neg c).symm.trans h
              refine G.aload_n (i := 0) dX8_order_307 rfl rfl ?_
              refine G.iload_n (i := 2) dX8_order_308 rfl rfl ?_
              obtain ⟨p9, hv, h⟩ := bd h
              refine G.callV (e_mm_buysMore hv) cs_X8_order_X8_buysMore ck8 shM_0 rfl rfl (Nat.le_of_ble_eq_true rfl) q953 q955 q37 dX8_order_309 ?_
              refine G.goto 316 dX8_order_312 rfl ?_
              exact eb_mm_order_316  h
          · replace h := (if_neg c).symm.trans h
            refine G.aload_n (i := 0) dX8_order_229 rfl rfl ?_
            refine G.dup dX8_order_230 ?_
            refine G.getI ck8 shM_0 14 rfl (by decide) q852 dX8_order_231 ?_
            refine G.iconst dX8_order_234 ki_1 ?_
            refine G.iadd dX8_order_235 ?_
            replace h := bnd_mp h
            refine G.putI ck8 shM_0 14 rfl (by decide) q852 rfl rfl rfl dX8_order_236 ?_
            refine G.aload_n (i := 0) dX8_order_239 rfl rfl ?_
            refine G.bipush dX8_order_240 kb_111 ?_
            refine G.bipush dX8_order_242 kb_117 ?_
            refine G.bipush dX8_order_244 kb_114 ?_
            refine G.iconst dX8_order_246 ki_0 ?_
            obtain ⟨μ11, hv, h⟩ := bd h
            refine G.callV (e_mm_signs hv) cs_X8_order_X8_signs ck8 shM_0 rfl rfl (Nat.le_of_ble_eq_true rfl) q1041 q1043 q50 dX8_order_247 ?_
            refine G.aload_n (i := 0) dX8_order_250 rfl rfl ?_
            obtain ⟨p12, hv, h⟩ := bd h
            refine G.callV (e_mm_number hv) cs_X8_order_X8_number ck8 shM_0 rfl rfl (Nat.le_of_ble_eq_true rfl) q1056 q1058 q53 dX8_order_251 ?_
            replace h := bnd_mp h
            refine G.istore_n (i := 2) dX8_order_254 rfl (Nat.le_of_ble_eq_true rfl) ?_
            refine G.aload_n (i := 0) dX8_order_255 rfl rfl ?_
            refine G.bipush dX8_order_256 kb_62 ?_
            refine G.bipush dX8_order_258 kb_62 ?_
            obtain ⟨p14, hv, h⟩ := bd h
            refine G.callV (e_mm_sign hv) cs_X8_order_X8_sign ck8 shM_0 rfl rfl (Nat.le_of_ble_eq_true rfl) q1045 q1047 q51 dX8_order_260 ?_
            replace h := bnd_mp h
            refine G.istore_n (i := 3) dX8_order_263 rfl (Nat.le_of_ble_eq_true rfl) ?_
            refine G.aload_n (i := 0) dX8_order_264 rfl rfl ?_
            obtain ⟨p16, hv, h⟩ := bd h
            refine G.callV (e_mm_number hv) cs_X8_order_X8_number ck8 shM_0 rfl rfl (Nat.le_of_ble_eq_true rfl) q1056 q1058 q53 dX8_order_265 ?_
            replace h := bnd_mp h
            refine G.istore dX8_order_268 (Nat.le_of_ble_eq_true rfl) ?_
            refine G.iload_n (i := 1) dX8_order_270 rfl rfl ?_
            refine G.if_eq 284 dX8_order_271 rfl (fun c => ?_) (fun c => ?_)
            · replace h := (if_pos c).symm.trans h
              refine G.iconst dX8_order_284 ki_0 ?_
              exact eb_mm_order_285  h
            · replace h := (if_neg c).symm.trans h
              refine G.aload_n (i := 0) dX8_order_274 rfl rfl ?_
              refine G.iload_n (i := 2) dX8_order_275 rfl rfl ?_
              refine G.iload dX8_order_276 rfl ?_
              obtain ⟨p18, hv, h⟩ := bd h
              refine G.callV (e_mm_pours hv) cs_X8_order_X8_pours ck8 shM_0 rfl rfl (Nat.le_of_ble_eq_true rfl) q930 q932 q33 dX8_order_278 ?_
              refine G.goto 285 dX8_order_281 rfl ?_
              exact eb_mm_order_285  h
        · replace h := (if_neg c).symm.trans h
          refine G.aload_n (i := 0) dX8_order_171 rfl rfl ?_
          refine G.dup dX8_order_172 ?_
          refine G.getI ck8 shM_0 14 rfl (by decide) q852 dX8_order_173 ?_
          refine G.iconst dX8_order_176 ki_1 ?_
          refine G.iadd dX8_order_177 ?_
          replace h := bnd_mp h
          refine G.putI ck8 shM_0 14 rfl (by decide) q852 rfl rfl rfl dX8_order_178 ?_
          refine G.aload_n (i := 0) dX8_order_181 rfl rfl ?_
          refine G.bipush dX8_order_182 kb_114 ?_
          refine G.bipush dX8_order_184 kb_111 ?_
          refine G.bipush dX8_order_186 kb_112 ?_
          refine G.iconst dX8_order_188 ki_0 ?_
          obtain ⟨μ20, hv, h⟩ := bd h
          refine G.callV (e_mm_signs hv) cs_X8_order_X8_signs ck8 shM_0 rfl rfl (Nat.le_of_ble_eq_true rfl) q1041 q1043 q50 dX8_order_189 ?_
          refine G.aload_n (i := 0) dX8_order_192 rfl rfl ?_
          refine G.bipush dX8_order_193 kb_48 ?_
          refine G.bipush dX8_order_195 kb_57 ?_
          obtain ⟨p21, hv, h⟩ := bd h
          refine G.callV (e_mm_sign hv) cs_X8_order_X8_sign ck8 shM_0 rfl rfl (Nat.le_of_ble_eq_true rfl) q1045 q1047 q51 dX8_order_197 ?_
          refine G.bipush dX8_order_200 kb_48 ?_
          refine G.isub dX8_order_202 ?_
          replace h := bnd_mp h
          refine G.istore_n (i := 2) dX8_order_203 rfl (Nat.le_of_ble_eq_true rfl) ?_
          refine G.iload_n (i := 1) dX8_order_204 rfl rfl ?_
          refine G.if_eq 216 dX8_order_205 rfl (fun c => ?_) (fun c => ?_)
          · replace h := (if_pos c).symm.trans h
            refine G.iconst dX8_order_216 ki_0 ?_
            exact eb_mm_order_217  h
          · replace h := (if_neg c).symm.trans h
            refine G.aload_n (i := 0) dX8_order_208 rfl rfl ?_
            refine G.iload_n (i := 2) dX8_order_209 rfl rfl ?_
            obtain ⟨p23, hv, h⟩ := bd h
            refine G.callV (e_mm_drops hv) cs_X8_order_X8_drops ck8 shM_0 rfl rfl (Nat.le_of_ble_eq_true rfl) q989 q991 q43 dX8_order_210 ?_
            refine G.goto 217 dX8_order_213 rfl ?_
            exact eb_mm_order_217  h
      · replace h := (if_neg c).symm.trans h
        refine G.aload_n (i := 0) dX8_order_120 rfl rfl ?_
        refine G.dup dX8_order_121 ?_
        refine G.getI ck8 shM_0 14 rfl (by decide) q852 dX8_order_122 ?_
        refine G.iconst dX8_order_125 ki_1 ?_
        refine G.iadd dX8_order_126 ?_
        replace h := bnd_mp h
        refine G.putI ck8 shM_0 14 rfl (by decide) q852 rfl rfl rfl dX8_order_127 ?_
        refine G.aload_n (i := 0) dX8_order_130 rfl rfl ?_
        refine G.bipush dX8_order_131 kb_97 ?_
        refine G.bipush dX8_order_133 kb_110 ?_
        refine G.bipush dX8_order_135 kb_116 ?_
        refine G.iconst dX8_order_137 ki_0 ?_
        obtain ⟨μ25, hv, h⟩ := bd h
        refine G.callV (e_mm_signs hv) cs_X8_order_X8_signs ck8 shM_0 rfl rfl (Nat.le_of_ble_eq_true rfl) q1041 q1043 q50 dX8_order_138 ?_
        refine G.aload_n (i := 0) dX8_order_141 rfl rfl ?_
        obtain ⟨p26, hv, h⟩ := bd h
        refine G.callV (e_mm_mix hv) cs_X8_order_X8_mix ck8 shM_0 rfl rfl (Nat.le_of_ble_eq_true rfl) q1049 q1051 q52 dX8_order_142 ?_
        replace h := bnd_mp h
        refine G.istore_n (i := 2) dX8_order_145 rfl (Nat.le_of_ble_eq_true rfl) ?_
        refine G.iload_n (i := 1) dX8_order_146 rfl rfl ?_
        refine G.if_eq 158 dX8_order_147 rfl (fun c => ?_) (fun c => ?_)
        · replace h := (if_pos c).symm.trans h
          refine G.iconst dX8_order_158 ki_0 ?_
          exact eb_mm_order_159  h
        · replace h := (if_neg c).symm.trans h
          refine G.aload_n (i := 0) dX8_order_150 rfl rfl ?_
          refine G.iload_n (i := 2) dX8_order_151 rfl rfl ?_
          obtain ⟨p28, hv, h⟩ := bd h
          refine G.callV (e_mm_wants hv) cs_X8_order_X8_wants ck8 shM_0 rfl rfl (Nat.le_of_ble_eq_true rfl) q1001 q1003 q44 dX8_order_152 ?_
          refine G.goto 159 dX8_order_155 rfl ?_
          exact eb_mm_order_159  h
    · replace h := (if_neg c).symm.trans h
      refine G.aload_n (i := 0) dX8_order_69 rfl rfl ?_
      refine G.dup dX8_order_70 ?_
      refine G.getI ck8 shM_0 14 rfl (by decide) q852 dX8_order_71 ?_
      refine G.iconst dX8_order_74 ki_1 ?_
      refine G.iadd dX8_order_75 ?_
      replace h := bnd_mp h
      refine G.putI ck8 shM_0 14 rfl (by decide) q852 rfl rfl rfl dX8_order_76 ?_
      refine G.aload_n (i := 0) dX8_order_79 rfl rfl ?_
      refine G.bipush dX8_order_80 kb_117 ?_
      refine G.bipush dX8_order_82 kb_108 ?_
      refine G.bipush dX8_order_84 kb_101 ?_
      refine G.iconst dX8_order_86 ki_0 ?_
      obtain ⟨μ30, hv, h⟩ := bd h
      refine G.callV (e_mm_signs hv) cs_X8_order_X8_signs ck8 shM_0 rfl rfl (Nat.le_of_ble_eq_true rfl) q1041 q1043 q50 dX8_order_87 ?_
      refine G.aload_n (i := 0) dX8_order_90 rfl rfl ?_
      obtain ⟨p31, hv, h⟩ := bd h
      refine G.callV (e_mm_mix hv) cs_X8_order_X8_mix ck8 shM_0 rfl rfl (Nat.le_of_ble_eq_true rfl) q1049 q1051 q52 dX8_order_91 ?_
      replace h := bnd_mp h
      refine G.istore_n (i := 2) dX8_order_94 rfl (Nat.le_of_ble_eq_true rfl) ?_
      refine G.iload_n (i := 1) dX8_order_95 rfl rfl ?_
      refine G.if_eq 107 dX8_order_96 rfl (fun c => ?_) (fun c => ?_)
      · replace h := (if_pos c).symm.trans h
        refine G.iconst dX8_order_107 ki_0 ?_
        exact eb_mm_order_108  h
      · replace h := (if_neg c).symm.trans h
        refine G.aload_n (i := 0) dX8_order_99 rfl rfl ?_
        refine G.iload_n (i := 2) dX8_order_100 rfl rfl ?_
        obtain ⟨p33, hv, h⟩ := bd h
        refine G.callV (e_mm_rules hv) cs_X8_order_X8_rules ck8 shM_0 rfl rfl (Nat.le_of_ble_eq_true rfl) q969 q971 q39 dX8_order_101 ?_
        refine G.goto 108 dX8_order_104 rfl ?_
        exact eb_mm_order_108  h
  · replace h := (if_neg c).symm.trans h
    refine G.aload_n (i := 0) dX8_order_11 rfl rfl ?_
    refine G.dup dX8_order_12 ?_
    refine G.getI ck8 shM_0 14 rfl (by decide) q852 dX8_order_13 ?_
    refine G.iconst dX8_order_16 ki_1 ?_
    refine G.iadd dX8_order_17 ?_
    replace h := bnd_mp h
    refine G.putI ck8 shM_0 14 rfl (by decide) q852 rfl rfl rfl dX8_order_18 ?_
    refine G.aload_n (i := 0) dX8_order_21 rfl rfl ?_
    refine G.bipush dX8_order_22 kb_97 ?_
    refine G.bipush dX8_order_24 kb_114 ?_
    refine G.iconst dX8_order_26 ki_0 ?_
    refine G.iconst dX8_order_27 ki_0 ?_
    obtain ⟨μ35, hv, h⟩ := bd h
    refine G.callV (e_mm_signs hv) cs_X8_order_X8_signs ck8 shM_0 rfl rfl (Nat.le_of_ble_eq_true rfl) q1041 q1043 q50 dX8_order_28 ?_
    refine G.aload_n (i := 0) dX8_order_31 rfl rfl ?_
    obtain ⟨p36, hv, h⟩ := bd h
    refine G.callV (e_mm_mix hv) cs_X8_order_X8_mix ck8 shM_0 rfl rfl (Nat.le_of_ble_eq_true rfl) q1049 q1051 q52 dX8_order_32 ?_
    replace h := bnd_mp h
    refine G.istore_n (i := 2) dX8_order_35 rfl (Nat.le_of_ble_eq_true rfl) ?_
    refine G.iload_n (i := 1) dX8_order_36 rfl rfl ?_
    refine G.if_eq 56 dX8_order_37 rfl (fun c => ?_) (fun c => ?_)
    · replace h := (if_pos c).symm.trans h
      refine G.iconst dX8_order_56 ki_0 ?_
      exact eb_mm_order_57  h
    · replace h := (if_neg c).symm.trans h
      refine G.aload_n (i := 0) dX8_order_40 rfl rfl ?_
      refine G.iload_n (i := 2) dX8_order_41 rfl rfl ?_
      refine G.aload_n (i := 0) dX8_order_42 rfl rfl ?_
      refine G.getI ck8 shM_0 16 rfl (by decide) q854 dX8_order_43 ?_
      refine G.aload_n (i := 0) dX8_order_46 rfl rfl ?_
      refine G.getI ck8 shM_0 17 rfl (by decide) q855 dX8_order_47 ?_
      obtain ⟨p38, hv, h⟩ := bd h
      refine G.callV (e_mm_comes hv) cs_X8_order_X8_comes ck8 shM_0 rfl rfl (Nat.le_of_ble_eq_true rfl) q918 q920 q31 dX8_order_50 ?_
      refine G.goto 57 dX8_order_53 rfl ?_
      exact eb_mm_order_57  h
set_option maxRecDepth 100000 in
theorem eb_mm_go_97 {x2 : Int} {o1 : Option PV} {o3 : Option PV} {o4 : Option PV} {o5 : Option PV} {μ : Mem} {res : (Int × Mem)} (h : mm_go_97 x2 μ = some res) : G shM l D ad ca YX8_go 97 [some (.inr 0), o1, some (.inl x2), o3, o4, o5] [] μ (some (.inl res.1)) res.2 := by
  rw [mm_go_97] at h
  refine G.iload_n (i := 2) dX8_go_97 rfl rfl ?_
  cases h
  exact G.iret dX8_go_98 rfl
set_option maxRecDepth 100000 in
theorem eb_mm_go_94 {K14 : Int → Int → Int → Mem → Option (Int × Mem)} (hK14 : ∀ (x1 : Int) (x2 : Int) (x3 : Int) (o4 : Option PV) (o5 : Option PV) (μ : Mem) (res : (Int × Mem)), K14 x1 x2 x3 μ = some res → G shM l D ad ca YX8_go 14 [some (.inr 0), some (.inl x1), some (.inl x2), some (.inl x3), o4, o5] [] μ (some (.inl res.1)) res.2) {x1 : Int} {x2 : Int} {x3 : Int} {o4 : Option PV} {o5 : Option PV} {μ : Mem} {res : (Int × Mem)} (h : mm_go_94 K14 x1 x2 x3 μ = some res) : G shM l D ad ca YX8_go 94 [some (.inr 0), some (.inl x1), some (.inl x2), some (.inl x3), o4, o5] [] μ (some (.inl res.1)) res.2 := by
  rw [mm_go_94] at h
  refine G.goto 14 dX8_go_94 rfl ?_
  exact hK14 _ _ _ _ _ _ _ h
set_option maxRecDepth 100000 in
theorem eb_mm_go_93 {K14 : Int → Int → Int → Mem → Option (Int × Mem)} (hK14 : ∀ (x1 : Int) (x2 : Int) (x3 : Int) (o4 : Option PV) (o5 : Option PV) (μ : Mem) (res : (Int × Mem)), K14 x1 x2 x3 μ = some res → G shM l D ad ca YX8_go 14 [some (.inr 0), some (.inl x1), some (.inl x2), some (.inl x3), o4, o5] [] μ (some (.inl res.1)) res.2) {x1 : Int} {x2 : Int} {s0 : Int} {o3 : Option PV} {o4 : Option PV} {o5 : Option PV} {μ : Mem} {res : (Int × Mem)} (h : mm_go_93 K14 x1 x2 s0 μ = some res) : G shM l D ad ca YX8_go 93 [some (.inr 0), some (.inl x1), some (.inl x2), o3, o4, o5] [.inl s0] μ (some (.inl res.1)) res.2 := by
  rw [mm_go_93] at h
  refine G.istore_n (i := 3) dX8_go_93 rfl (Nat.le_of_ble_eq_true rfl) ?_
  exact eb_mm_go_94 hK14 h
set_option maxRecDepth 100000 in
theorem eb_mm_go_66 {K14 : Int → Int → Int → Mem → Option (Int × Mem)} (hK14 : ∀ (x1 : Int) (x2 : Int) (x3 : Int) (o4 : Option PV) (o5 : Option PV) (μ : Mem) (res : (Int × Mem)), K14 x1 x2 x3 μ = some res → G shM l D ad ca YX8_go 14 [some (.inr 0), some (.inl x1), some (.inl x2), some (.inl x3), o4, o5] [] μ (some (.inl res.1)) res.2) {x1 : Int} {x2 : Int} {s0 : Int} {o3 : Option PV} {o4 : Option PV} {o5 : Option PV} {μ : Mem} {res : (Int × Mem)} (h : mm_go_66 K14 x1 x2 s0 μ = some res) : G shM l D ad ca YX8_go 66 [some (.inr 0), some (.inl x1), some (.inl x2), o3, o4, o5] [.inl s0] μ (some (.inl res.1)) res.2 := by
  rw [mm_go_66] at h
  refine G.istore_n (i := 3) dX8_go_66 rfl (Nat.le_of_ble_eq_true rfl) ?_
  refine G.iload_n (i := 3) dX8_go_67 rfl rfl ?_
  refine G.if_eq 94 dX8_go_68 rfl (fun c => ?_) (fun c => ?_)
  · replace h := (if_pos c).symm.trans h
    exact eb_mm_go_94 hK14 h
  · replace h := (if_neg c).symm.trans h
    refine G.aload_n (i := 0) dX8_go_71 rfl rfl ?_
    refine G.bipush dX8_go_72 kb_59 ?_
    refine G.bipush dX8_go_74 kb_59 ?_
    obtain ⟨p6, hv, h⟩ := bd h
    refine G.callV (e_mm_sign hv) cs_X8_go_X8_sign ck8 shM_0 rfl rfl (Nat.le_of_ble_eq_true rfl) q1045 q1047 q51 dX8_go_76 ?_
    replace h := bnd_mp h
    refine G.istore dX8_go_79 (Nat.le_of_ble_eq_true rfl) ?_
    refine G.aload_n (i := 0) dX8_go_81 rfl rfl ?_
    refine G.getI ck8 shM_0 15 rfl (by decide) q853 dX8_go_82 ?_
    refine G.if_ne 92 dX8_go_85 rfl (fun c => ?_) (fun c => ?_)
    · replace h := (if_neg c).symm.trans h
      refine G.iconst dX8_go_92 ki_0 ?_
      exact eb_mm_go_93 hK14 h
    · replace h := (if_pos c).symm.trans h
      refine G.iconst dX8_go_88 ki_1 ?_
      refine G.goto 93 dX8_go_89 rfl ?_
      exact eb_mm_go_93 hK14 h
set_option maxRecDepth 100000 in
theorem eb_mm_go_65 {K14 : Int → Int → Int → Mem → Option (Int × Mem)} (hK14 : ∀ (x1 : Int) (x2 : Int) (x3 : Int) (o4 : Option PV) (o5 : Option PV) (μ : Mem) (res : (Int × Mem)), K14 x1 x2 x3 μ = some res → G shM l D ad ca YX8_go 14 [some (.inr 0), some (.inl x1), some (.inl x2), some (.inl x3), o4, o5] [] μ (some (.inl res.1)) res.2) {x1 : Int} {x2 : Int} {o3 : Option PV} {o4 : Option PV} {o5 : Option PV} {μ : Mem} {res : (Int × Mem)} (h : mm_go_65 K14 x1 x2 μ = some res) : G shM l D ad ca YX8_go 65 [some (.inr 0), some (.inl x1), some (.inl x2), o3, o4, o5] [] μ (some (.inl res.1)) res.2 := by
  rw [mm_go_65] at h
  refine G.iconst dX8_go_65 ki_0 ?_
  exact eb_mm_go_66 hK14 h
set_option maxRecDepth 100000 in
theorem eb_mm_go_40 {K14 : Int → Int → Int → Mem → Option (Int × Mem)} (hK14 : ∀ (x1 : Int) (x2 : Int) (x3 : Int) (o4 : Option PV) (o5 : Option PV) (μ : Mem) (res : (Int × Mem)), K14 x1 x2 x3 μ = some res → G shM l D ad ca YX8_go 14 [some (.inr 0), some (.inl x1), some (.inl x2), some (.inl x3), o4, o5] [] μ (some (.inl res.1)) res.2) {x1 : Int} {x2 : Int} {o3 : Option PV} {o4 : Option PV} {o5 : Option PV} {μ : Mem} {res : (Int × Mem)} (h : mm_go_40 K14 x1 x2 μ = some res) : G shM l D ad ca YX8_go 40 [some (.inr 0), some (.inl x1), some (.inl x2), o3, o4, o5] [] μ (some (.inl res.1)) res.2 := by
  rw [mm_go_40] at h
  replace h := bnd_mp h
  refine G.iinc dX8_go_40 rfl (Nat.le_of_ble_eq_true rfl) ?_
  refine G.aload_n (i := 0) dX8_go_43 rfl rfl ?_
  refine G.getI ck8 shM_0 15 rfl (by decide) q853 dX8_go_44 ?_
  refine G.if_ne 65 dX8_go_47 rfl (fun c => ?_) (fun c => ?_)
  · replace h := (if_neg c).symm.trans h
    exact eb_mm_go_65 hK14 h
  · replace h := (if_pos c).symm.trans h
    refine G.aload_n (i := 0) dX8_go_50 rfl rfl ?_
    refine G.getI ck8 shM_0 14 rfl (by decide) q852 dX8_go_51 ?_
    refine G.aload_n (i := 0) dX8_go_54 rfl rfl ?_
    refine G.getI ck8 shM_0 7 rfl (by decide) q845 dX8_go_55 ?_
    refine G.icmp_ge 65 dX8_go_58 rfl (fun c => ?_) (fun c => ?_)
    · replace h := (if_pos c).symm.trans h
      exact eb_mm_go_65 hK14 h
    · replace h := (if_neg c).symm.trans h
      refine G.iconst dX8_go_61 ki_1 ?_
      refine G.goto 66 dX8_go_62 rfl ?_
      exact eb_mm_go_66 hK14 h
set_option maxRecDepth 100000 in
theorem eb_mm_go_37 {x4 : Int} {o1 : Option PV} {o2 : Option PV} {o3 : Option PV} {o5 : Option PV} {μ : Mem} {res : (Int × Mem)} (h : mm_go_37 x4 μ = some res) : G shM l D ad ca YX8_go 37 [some (.inr 0), o1, o2, o3, some (.inl x4), o5] [] μ (some (.inl res.1)) res.2 := by
  rw [mm_go_37] at h
  refine G.iload dX8_go_37 rfl ?_
  cases h
  exact G.iret dX8_go_39 rfl
set_option maxRecDepth 100000 in
theorem eb_mm_go_14 : ∀ (n : Nat) (x1 : Int) (x2 : Int) (x3 : Int) (o4 : Option PV) (o5 : Option PV) (μ : Mem) (res : (Int × Mem)), mm_go_14 n x1 x2 x3 μ = some res → G shM l D ad ca YX8_go 14 [some (.inr 0), some (.inl x1), some (.inl x2), some (.inl x3), o4, o5] [] μ (some (.inl res.1)) res.2 := by
  intro n
  induction n with
  | zero =>
    intro x1 x2 x3 o4 o5 μ res h
    rw [mm_go_14] at h
    cases h
  | succ n ih =>
    intro x1 x2 x3 o4 o5 μ res h
    rw [mm_go_14] at h
    refine G.iload_n (i := 3) dX8_go_14 rfl rfl ?_
    refine G.if_eq 97 dX8_go_15 rfl (fun c => ?_) (fun c => ?_)
    · replace h := (if_pos c).symm.trans h
      exact eb_mm_go_97  h
    · replace h := (if_neg c).symm.trans h
      refine G.aload_n (i := 0) dX8_go_18 rfl rfl ?_
      refine G.iload_n (i := 1) dX8_go_19 rfl rfl ?_
      obtain ⟨p3, hv, h⟩ := bd h
      refine G.callV (e_mm_order hv) cs_X8_go_X8_order ck8 shM_0 rfl rfl (Nat.le_of_ble_eq_true rfl) q1033 q1035 q48 dX8_go_20 ?_
      replace h := bnd_mp h
      refine G.istore dX8_go_23 (Nat.le_of_ble_eq_true rfl) ?_
      refine G.iload dX8_go_25 rfl ?_
      refine G.if_ge 40 dX8_go_27 rfl (fun c => ?_) (fun c => ?_)
      · replace h := (if_pos c).symm.trans h
        exact eb_mm_go_40 ih h
      · replace h := (if_neg c).symm.trans h
        refine G.iload dX8_go_30 rfl ?_
        refine G.bipush dX8_go_32 kb_m5 ?_
        refine G.icmp_eq 40 dX8_go_34 rfl (fun c => ?_) (fun c => ?_)
        · replace h := (if_pos c).symm.trans h
          exact eb_mm_go_40 ih h
        · replace h := (if_neg c).symm.trans h
          exact eb_mm_go_37  h
set_option maxRecDepth 100000 in
theorem e_mm_go {a1 : Int} {μ : Mem} {res : (Int × Mem)} (h : mm_go a1 μ = some res) : GM shM l D ad ca YX8_go [.inr 0, .inl a1] μ (some (.inl res.1)) res.2 := by
  refine GM.of (L := [some (.inr 0), some (.inl a1), none, none, none, none]) (by decide +kernel) rfl (Nat.le_of_ble_eq_true rfl) ?_
  rw [mm_go] at h
  refine G.aload_n (i := 0) dX8_go_0 rfl rfl ?_
  refine G.iconst dX8_go_1 ki_0 ?_
  replace h := bnd_mp h
  refine G.putI ck8 shM_0 14 rfl (by decide) q852 rfl rfl rfl dX8_go_2 ?_
  refine G.aload_n (i := 0) dX8_go_5 rfl rfl ?_
  refine G.iconst dX8_go_6 ki_0 ?_
  replace h := bnd_mp h
  refine G.putI ck8 shM_0 15 rfl (by decide) q853 rfl rfl rfl dX8_go_7 ?_
  refine G.iconst dX8_go_10 ki_0 ?_
  refine G.istore_n (i := 2) dX8_go_11 rfl (Nat.le_of_ble_eq_true rfl) ?_
  refine G.iconst dX8_go_12 ki_1 ?_
  refine G.istore_n (i := 3) dX8_go_13 rfl (Nat.le_of_ble_eq_true rfl) ?_
  exact eb_mm_go_14  _ _ _ _ _ _ _ _ h
set_option maxRecDepth 100000 in
theorem eb_mm_putAside_26 {o1 : Option PV} {μ : Mem} {res : Mem} (h : mm_putAside_26 μ = some res) : G shM l D ad ca YX8_putAside 26 [some (.inr 0), o1] [] μ none res := by
  rw [mm_putAside_26] at h
  cases h
  exact G.vret dX8_putAside_26 rfl
set_option maxRecDepth 100000 in
theorem eb_mm_putAside_2 : ∀ (n : Nat) (x1 : Int) (μ : Mem) (res : Mem), mm_putAside_2 n x1 μ = some res → G shM l D ad ca YX8_putAside 2 [some (.inr 0), some (.inl x1)] [] μ none res := by
  intro n
  induction n with
  | zero =>
    intro x1 μ res h
    rw [mm_putAside_2] at h
    cases h
  | succ n ih =>
    intro x1 μ res h
    rw [mm_putAside_2] at h
    refine G.iload_n (i := 1) dX8_putAside_2 rfl rfl ?_
    refine G.bipush dX8_putAside_3 kb_60 ?_
    refine G.icmp_ge 26 dX8_putAside_5 rfl (fun c => ?_) (fun c => ?_)
    · replace h := (if_pos c).symm.trans h
      exact eb_mm_putAside_26  h
    · replace h := (if_neg c).symm.trans h
      refine G.aload_n (i := 0) dX8_putAside_8 rfl rfl ?_
      refine G.getR ck8 shM_0 1 rfl (by decide) q839 dX8_putAside_9 ?_
      refine G.iload_n (i := 1) dX8_putAside_12 rfl rfl ?_
      refine G.aload_n (i := 0) dX8_putAside_13 rfl rfl ?_
      refine G.getR ck8 shM_0 0 rfl (by decide) q838 dX8_putAside_14 ?_
      refine G.iload_n (i := 1) dX8_putAside_17 rfl rfl ?_
      obtain ⟨v1, hv, h⟩ := bd h
      obtain ⟨hb, rfl⟩ := aget_some hv
      refine G.iald shM_1 hb dX8_putAside_18 ?_
      obtain ⟨μ2, hv, h⟩ := bd h
      obtain ⟨hb, rfl⟩ := aput_some hv
      refine G.iast shM_2 hb dX8_putAside_19 ?_
      replace h := bnd_mp h
      refine G.iinc dX8_putAside_20 rfl (Nat.le_of_ble_eq_true rfl) ?_
      refine G.goto 2 dX8_putAside_23 rfl ?_
      exact ih _ _ _ h
set_option maxRecDepth 100000 in
theorem e_mm_putAside {μ : Mem} {res : Mem} (h : mm_putAside μ = some res) : GM shM l D ad ca YX8_putAside [.inr 0] μ none res := by
  refine GM.of (L := [some (.inr 0), none]) (by decide +kernel) rfl (Nat.le_of_ble_eq_true rfl) ?_
  rw [mm_putAside] at h
  refine G.iconst dX8_putAside_0 ki_0 ?_
  refine G.istore_n (i := 1) dX8_putAside_1 rfl (Nat.le_of_ble_eq_true rfl) ?_
  exact eb_mm_putAside_2  _ _ _ _ h
set_option maxRecDepth 100000 in
theorem eb_mm_act_119 {x1 : Int} {o2 : Option PV} {μ : Mem} {res : (Int × Mem)} (h : mm_act_119 x1 μ = some res) : G shM l D ad ca YX8_act 119 [some (.inr 0), some (.inl x1), o2] [] μ (some (.inl res.1)) res.2 := by
  rw [mm_act_119] at h
  refine G.aload_n (i := 0) dX8_act_119 rfl rfl ?_
  refine G.dup dX8_act_120 ?_
  refine G.getI ck8 shM_0 3 rfl (by decide) q841 dX8_act_121 ?_
  refine G.iconst dX8_act_124 ki_1 ?_
  refine G.iadd dX8_act_125 ?_
  replace h := bnd_mp h
  refine G.putI ck8 shM_0 3 rfl (by decide) q841 rfl rfl rfl dX8_act_126 ?_
  refine G.iload_n (i := 1) dX8_act_129 rfl rfl ?_
  cases h
  exact G.iret dX8_act_130 rfl
set_option maxRecDepth 100000 in
theorem eb_mm_act_87 : ∀ (n : Nat) (x1 : Int) (x2 : Int) (μ : Mem) (res : (Int × Mem)), mm_act_87 n x1 x2 μ = some res → G shM l D ad ca YX8_act 87 [some (.inr 0), some (.inl x1), some (.inl x2)] [] μ (some (.inl res.1)) res.2 := by
  intro n
  induction n with
  | zero =>
    intro x1 x2 μ res h
    rw [mm_act_87] at h
    cases h
  | succ n ih =>
    intro x1 x2 μ res h
    rw [mm_act_87] at h
    refine G.iload_n (i := 2) dX8_act_87 rfl rfl ?_
    refine G.bipush dX8_act_88 kb_60 ?_
    refine G.icmp_ge 119 dX8_act_90 rfl (fun c => ?_) (fun c => ?_)
    · replace h := (if_pos c).symm.trans h
      exact eb_mm_act_119  h
    · replace h := (if_neg c).symm.trans h
      refine G.aload_n (i := 0) dX8_act_93 rfl rfl ?_
      refine G.getR ck8 shM_0 2 rfl (by decide) q840 dX8_act_94 ?_
      refine G.bipush dX8_act_97 kb_60 ?_
      refine G.aload_n (i := 0) dX8_act_99 rfl rfl ?_
      refine G.getI ck8 shM_0 3 rfl (by decide) q841 dX8_act_100 ?_
      refine G.imul dX8_act_103 ?_
      refine G.iload_n (i := 2) dX8_act_104 rfl rfl ?_
      refine G.iadd dX8_act_105 ?_
      refine G.aload_n (i := 0) dX8_act_106 rfl rfl ?_
      refine G.getR ck8 shM_0 1 rfl (by decide) q839 dX8_act_107 ?_
      refine G.iload_n (i := 2) dX8_act_110 rfl rfl ?_
      obtain ⟨v3, hv, h⟩ := bd h
      obtain ⟨hb, rfl⟩ := aget_some hv
      refine G.iald shM_2 hb dX8_act_111 ?_
      obtain ⟨μ4, hv, h⟩ := bd h
      obtain ⟨hb, rfl⟩ := aput_some hv
      refine G.iast shM_3 hb dX8_act_112 ?_
      replace h := bnd_mp h
      refine G.iinc dX8_act_113 rfl (Nat.le_of_ble_eq_true rfl) ?_
      refine G.goto 87 dX8_act_116 rfl ?_
      exact ih _ _ _ _ h
set_option maxRecDepth 100000 in
theorem eb_mm_act_85 {x1 : Int} {o2 : Option PV} {μ : Mem} {res : (Int × Mem)} (h : mm_act_85 x1 μ = some res) : G shM l D ad ca YX8_act 85 [some (.inr 0), some (.inl x1), o2] [] μ (some (.inl res.1)) res.2 := by
  rw [mm_act_85] at h
  refine G.iconst dX8_act_85 ki_0 ?_
  refine G.istore_n (i := 2) dX8_act_86 rfl (Nat.le_of_ble_eq_true rfl) ?_
  exact eb_mm_act_87  _ _ _ _ _ h
set_option maxRecDepth 100000 in
theorem eb_mm_act_75 {x1 : Int} {o2 : Option PV} {μ : Mem} {res : (Int × Mem)} (h : mm_act_75 x1 μ = some res) : G shM l D ad ca YX8_act 75 [some (.inr 0), some (.inl x1), o2] [] μ (some (.inl res.1)) res.2 := by
  rw [mm_act_75] at h
  refine G.aload_n (i := 0) dX8_act_75 rfl rfl ?_
  refine G.dup dX8_act_76 ?_
  refine G.getI ck8 shM_0 3 rfl (by decide) q841 dX8_act_77 ?_
  refine G.iconst dX8_act_80 ki_1 ?_
  refine G.isub dX8_act_81 ?_
  replace h := bnd_mp h
  refine G.putI ck8 shM_0 3 rfl (by decide) q841 rfl rfl rfl dX8_act_82 ?_
  exact eb_mm_act_85  h
set_option maxRecDepth 100000 in
theorem eb_mm_act_47 : ∀ (n : Nat) (x1 : Int) (x2 : Int) (μ : Mem) (res : (Int × Mem)), mm_act_47 n x1 x2 μ = some res → G shM l D ad ca YX8_act 47 [some (.inr 0), some (.inl x1), some (.inl x2)] [] μ (some (.inl res.1)) res.2 := by
  intro n
  induction n with
  | zero =>
    intro x1 x2 μ res h
    rw [mm_act_47] at h
    cases h
  | succ n ih =>
    intro x1 x2 μ res h
    rw [mm_act_47] at h
    refine G.iload_n (i := 2) dX8_act_47 rfl rfl ?_
    refine G.sipush dX8_act_48 ks_180 ?_
    refine G.icmp_ge 75 dX8_act_51 rfl (fun c => ?_) (fun c => ?_)
    · replace h := (if_pos c).symm.trans h
      exact eb_mm_act_75  h
    · replace h := (if_neg c).symm.trans h
      refine G.aload_n (i := 0) dX8_act_54 rfl rfl ?_
      refine G.getR ck8 shM_0 2 rfl (by decide) q840 dX8_act_55 ?_
      refine G.iload_n (i := 2) dX8_act_58 rfl rfl ?_
      refine G.aload_n (i := 0) dX8_act_59 rfl rfl ?_
      refine G.getR ck8 shM_0 2 rfl (by decide) q840 dX8_act_60 ?_
      refine G.bipush dX8_act_63 kb_60 ?_
      refine G.iload_n (i := 2) dX8_act_65 rfl rfl ?_
      refine G.iadd dX8_act_66 ?_
      obtain ⟨v7, hv, h⟩ := bd h
      obtain ⟨hb, rfl⟩ := aget_some hv
      refine G.iald shM_3 hb dX8_act_67 ?_
      obtain ⟨μ8, hv, h⟩ := bd h
      obtain ⟨hb, rfl⟩ := aput_some hv
      refine G.iast shM_3 hb dX8_act_68 ?_
      replace h := bnd_mp h
      refine G.iinc dX8_act_69 rfl (Nat.le_of_ble_eq_true rfl) ?_
      refine G.goto 47 dX8_act_72 rfl ?_
      exact ih _ _ _ _ h
set_option maxRecDepth 100000 in
theorem eb_mm_act_35 {x1 : Int} {o2 : Option PV} {μ : Mem} {res : (Int × Mem)} (h : mm_act_35 x1 μ = some res) : G shM l D ad ca YX8_act 35 [some (.inr 0), some (.inl x1), o2] [] μ (some (.inl res.1)) res.2 := by
  rw [mm_act_35] at h
  refine G.iload_n (i := 1) dX8_act_35 rfl rfl ?_
  cases h
  exact G.iret dX8_act_36 rfl
set_option maxRecDepth 100000 in
theorem eb_mm_act_11 : ∀ (n : Nat) (x1 : Int) (x2 : Int) (μ : Mem) (res : (Int × Mem)), mm_act_11 n x1 x2 μ = some res → G shM l D ad ca YX8_act 11 [some (.inr 0), some (.inl x1), some (.inl x2)] [] μ (some (.inl res.1)) res.2 := by
  intro n
  induction n with
  | zero =>
    intro x1 x2 μ res h
    rw [mm_act_11] at h
    cases h
  | succ n ih =>
    intro x1 x2 μ res h
    rw [mm_act_11] at h
    refine G.iload_n (i := 2) dX8_act_11 rfl rfl ?_
    refine G.bipush dX8_act_12 kb_60 ?_
    refine G.icmp_ge 35 dX8_act_14 rfl (fun c => ?_) (fun c => ?_)
    · replace h := (if_pos c).symm.trans h
      exact eb_mm_act_35  h
    · replace h := (if_neg c).symm.trans h
      refine G.aload_n (i := 0) dX8_act_17 rfl rfl ?_
      refine G.getR ck8 shM_0 0 rfl (by decide) q838 dX8_act_18 ?_
      refine G.iload_n (i := 2) dX8_act_21 rfl rfl ?_
      refine G.aload_n (i := 0) dX8_act_22 rfl rfl ?_
      refine G.getR ck8 shM_0 1 rfl (by decide) q839 dX8_act_23 ?_
      refine G.iload_n (i := 2) dX8_act_26 rfl rfl ?_
      obtain ⟨v10, hv, h⟩ := bd h
      obtain ⟨hb, rfl⟩ := aget_some hv
      refine G.iald shM_2 hb dX8_act_27 ?_
      obtain ⟨μ11, hv, h⟩ := bd h
      obtain ⟨hb, rfl⟩ := aput_some hv
      refine G.iast shM_1 hb dX8_act_28 ?_
      replace h := bnd_mp h
      refine G.iinc dX8_act_29 rfl (Nat.le_of_ble_eq_true rfl) ?_
      refine G.goto 11 dX8_act_32 rfl ?_
      exact ih _ _ _ _ h
set_option maxRecDepth 100000 in
theorem e_mm_act {a1 : Int} {μ : Mem} {res : (Int × Mem)} (h : mm_act a1 μ = some res) : GM shM l D ad ca YX8_act [.inr 0, .inl a1] μ (some (.inl res.1)) res.2 := by
  refine GM.of (L := [some (.inr 0), some (.inl a1), none]) (by decide +kernel) rfl (Nat.le_of_ble_eq_true rfl) ?_
  rw [mm_act] at h
  refine G.aload_n (i := 0) dX8_act_0 rfl rfl ?_
  refine G.iconst dX8_act_1 ki_0 ?_
  replace h := bnd_mp h
  refine G.putI ck8 shM_0 8 rfl (by decide) q846 rfl rfl rfl dX8_act_2 ?_
  refine G.iload_n (i := 1) dX8_act_5 rfl rfl ?_
  refine G.if_ge 37 dX8_act_6 rfl (fun c => ?_) (fun c => ?_)
  · replace h := (if_pos c).symm.trans h
    refine G.aload_n (i := 0) dX8_act_37 rfl rfl ?_
    refine G.getI ck8 shM_0 3 rfl (by decide) q841 dX8_act_38 ?_
    refine G.iconst dX8_act_41 ki_4 ?_
    refine G.icmp_ne 85 dX8_act_42 rfl (fun c => ?_) (fun c => ?_)
    · replace h := (if_neg c).symm.trans h
      exact eb_mm_act_85  h
    · replace h := (if_pos c).symm.trans h
      refine G.iconst dX8_act_45 ki_0 ?_
      refine G.istore_n (i := 2) dX8_act_46 rfl (Nat.le_of_ble_eq_true rfl) ?_
      exact eb_mm_act_47  _ _ _ _ _ h
  · replace h := (if_neg c).symm.trans h
    refine G.iconst dX8_act_9 ki_0 ?_
    refine G.istore_n (i := 2) dX8_act_10 rfl (Nat.le_of_ble_eq_true rfl) ?_
    exact eb_mm_act_11  _ _ _ _ _ h
set_option maxRecDepth 100000 in
theorem e_mm_doAll {μ : Mem} {res : (Int × Mem)} (h : mm_doAll μ = some res) : GM shM l D ad ca YX8_doAll [.inr 0] μ (some (.inl res.1)) res.2 := by
  refine GM.of (L := [some (.inr 0), none]) (by decide +kernel) rfl (Nat.le_of_ble_eq_true rfl) ?_
  rw [mm_doAll] at h
  refine G.aload_n (i := 0) dX8_doAll_0 rfl rfl ?_
  refine G.iconst dX8_doAll_1 ki_0 ?_
  obtain ⟨p1, hv, h⟩ := bd h
  refine G.callV (e_mm_go hv) cs_X8_doAll_X8_go ck8 shM_0 rfl rfl (Nat.le_of_ble_eq_true rfl) q1029 q1031 q47 dX8_doAll_2 ?_
  replace h := bnd_mp h
  refine G.istore_n (i := 1) dX8_doAll_5 rfl (Nat.le_of_ble_eq_true rfl) ?_
  refine G.aload_n (i := 0) dX8_doAll_6 rfl rfl ?_
  refine G.getI ck8 shM_0 15 rfl (by decide) q853 dX8_doAll_7 ?_
  refine G.if_eq 21 dX8_doAll_10 rfl (fun c => ?_) (fun c => ?_)
  · replace h := (if_pos c).symm.trans h
    refine G.aload_n (i := 0) dX8_doAll_21 rfl rfl ?_
    obtain ⟨μ3, hv, h⟩ := bd h
    refine G.callV (e_mm_putAside hv) cs_X8_doAll_X8_putAside ck8 shM_0 rfl rfl (Nat.le_of_ble_eq_true rfl) q907 q909 q29 dX8_doAll_22 ?_
    refine G.aload_n (i := 0) dX8_doAll_25 rfl rfl ?_
    refine G.aload_n (i := 0) dX8_doAll_26 rfl rfl ?_
    refine G.iconst dX8_doAll_27 ki_1 ?_
    obtain ⟨p4, hv, h⟩ := bd h
    refine G.callV (e_mm_go hv) cs_X8_doAll_X8_go ck8 shM_0 rfl rfl (Nat.le_of_ble_eq_true rfl) q1029 q1031 q47 dX8_doAll_28 ?_
    obtain ⟨p5, hv, h⟩ := bd h
    refine G.callV (e_mm_act hv) cs_X8_doAll_X8_act ck8 shM_0 rfl rfl (Nat.le_of_ble_eq_true rfl) q922 q924 q32 dX8_doAll_31 ?_
    cases h
    exact G.iret dX8_doAll_34 rfl
  · replace h := (if_neg c).symm.trans h
    refine G.bipush dX8_doAll_13 kb_m100 ?_
    refine G.aload_n (i := 0) dX8_doAll_15 rfl rfl ?_
    refine G.getI ck8 shM_0 14 rfl (by decide) q852 dX8_doAll_16 ?_
    refine G.isub dX8_doAll_19 ?_
    cases h
    exact G.iret dX8_doAll_20 rfl
set_option maxRecDepth 100000 in
theorem eb_mm_drop_24 {s0 : Int} {o1 : Option PV} {μ : Mem} {res : (Int × Mem)} (h : mm_drop_24 s0 μ = some res) : G shM l D ad ca YX8_drop 24 [some (.inr 0), o1] [.inl s0] μ (some (.inl res.1)) res.2 := by
  rw [mm_drop_24] at h
  cases h
  exact G.iret dX8_drop_24 rfl
set_option maxRecDepth 100000 in
theorem e_mm_drop {a1 : Int} {μ : Mem} {res : (Int × Mem)} (h : mm_drop a1 μ = some res) : GM shM l D ad ca YX8_drop [.inr 0, .inl a1] μ (some (.inl res.1)) res.2 := by
  refine GM.of (L := [some (.inr 0), some (.inl a1)]) (by decide +kernel) rfl (Nat.le_of_ble_eq_true rfl) ?_
  rw [mm_drop] at h
  refine G.aload_n (i := 0) dX8_drop_0 rfl rfl ?_
  obtain ⟨μ1, hv, h⟩ := bd h
  refine G.callV (e_mm_putAside hv) cs_X8_drop_X8_putAside ck8 shM_0 rfl rfl (Nat.le_of_ble_eq_true rfl) q907 q909 q29 dX8_drop_1 ?_
  refine G.aload_n (i := 0) dX8_drop_4 rfl rfl ?_
  refine G.aload_n (i := 0) dX8_drop_5 rfl rfl ?_
  refine G.iload_n (i := 1) dX8_drop_6 rfl rfl ?_
  obtain ⟨p2, hv, h⟩ := bd h
  refine G.callV (e_mm_drops hv) cs_X8_drop_X8_drops ck8 shM_0 rfl rfl (Nat.le_of_ble_eq_true rfl) q989 q991 q43 dX8_drop_7 ?_
  obtain ⟨p3, hv, h⟩ := bd h
  refine G.callV (e_mm_act hv) cs_X8_drop_X8_act ck8 shM_0 rfl rfl (Nat.le_of_ble_eq_true rfl) q922 q924 q32 dX8_drop_10 ?_
  refine G.if_ge 20 dX8_drop_13 rfl (fun c => ?_) (fun c => ?_)
  · replace h := (if_pos c).symm.trans h
    refine G.aload_n (i := 0) dX8_drop_20 rfl rfl ?_
    obtain ⟨p4, hv, h⟩ := bd h
    refine G.callV (e_mm_strength hv) cs_X8_drop_X8_strength ck8 shM_0 rfl rfl (Nat.le_of_ble_eq_true rfl) q973 q975 q40 dX8_drop_21 ?_
    exact eb_mm_drop_24  h
  · replace h := (if_neg c).symm.trans h
    refine G.iconst dX8_drop_16 ki_m1 ?_
    refine G.goto 24 dX8_drop_17 rfl ?_
    exact eb_mm_drop_24  h
set_option maxRecDepth 100000 in
theorem eb_mm_fault_22 {s0 : Int} {o1 : Option PV} {μ : Mem} {res : (Int × Mem)} (h : mm_fault_22 s0 μ = some res) : G shM l D ad ca YX8_fault 22 [some (.inr 0), o1] [.inl s0] μ (some (.inl res.1)) res.2 := by
  rw [mm_fault_22] at h
  cases h
  exact G.iret dX8_fault_22 rfl
set_option maxRecDepth 100000 in
theorem e_mm_fault {μ : Mem} {res : (Int × Mem)} (h : mm_fault μ = some res) : GM shM l D ad ca YX8_fault [.inr 0] μ (some (.inl res.1)) res.2 := by
  refine GM.of (L := [some (.inr 0), none]) (by decide +kernel) rfl (Nat.le_of_ble_eq_true rfl) ?_
  rw [mm_fault] at h
  refine G.aload_n (i := 0) dX8_fault_0 rfl rfl ?_
  refine G.iconst dX8_fault_1 ki_0 ?_
  obtain ⟨p1, hv, h⟩ := bd h
  refine G.callV (e_mm_go hv) cs_X8_fault_X8_go ck8 shM_0 rfl rfl (Nat.le_of_ble_eq_true rfl) q1029 q1031 q47 dX8_fault_2 ?_
  replace h := bnd_mp h
  refine G.istore_n (i := 1) dX8_fault_5 rfl (Nat.le_of_ble_eq_true rfl) ?_
  refine G.aload_n (i := 0) dX8_fault_6 rfl rfl ?_
  refine G.getI ck8 shM_0 15 rfl (by decide) q853 dX8_fault_7 ?_
  refine G.if_eq 20 dX8_fault_10 rfl (fun c => ?_) (fun c => ?_)
  · replace h := (if_pos c).symm.trans h
    refine G.bipush dX8_fault_20 kb_m5 ?_
    exact eb_mm_fault_22  h
  · replace h := (if_neg c).symm.trans h
    refine G.aload_n (i := 0) dX8_fault_13 rfl rfl ?_
    refine G.getI ck8 shM_0 14 rfl (by decide) q852 dX8_fault_14 ?_
    refine G.goto 22 dX8_fault_17 rfl ?_
    exact eb_mm_fault_22  h
set_option maxRecDepth 100000 in
theorem eb_mm_laySums_60 {x1 : Int} {o2 : Option PV} {o3 : Option PV} {μ : Mem} {res : (Int × Mem)} (h : mm_laySums_60 x1 μ = some res) : G shM l D ad ca YX8_laySums 60 [some (.inr 0), some (.inl x1), o2, o3] [] μ (some (.inl res.1)) res.2 := by
  rw [mm_laySums_60] at h
  refine G.iload_n (i := 1) dX8_laySums_60 rfl rfl ?_
  cases h
  exact G.iret dX8_laySums_61 rfl
set_option maxRecDepth 100000 in
theorem eb_mm_laySums_50 {K4 : Int → Int → Mem → Option (Int × Mem)} (hK4 : ∀ (x1 : Int) (x2 : Int) (o3 : Option PV) (μ : Mem) (res : (Int × Mem)), K4 x1 x2 μ = some res → G shM l D ad ca YX8_laySums 4 [some (.inr 0), some (.inl x1), some (.inl x2), o3] [] μ (some (.inl res.1)) res.2) {x1 : Int} {x2 : Int} {o3 : Option PV} {μ : Mem} {res : (Int × Mem)} (h : mm_laySums_50 K4 x1 x2 μ = some res) : G shM l D ad ca YX8_laySums 50 [some (.inr 0), some (.inl x1), some (.inl x2), o3] [] μ (some (.inl res.1)) res.2 := by
  rw [mm_laySums_50] at h
  refine G.iconst dX8_laySums_50 ki_2 ?_
  refine G.iload_n (i := 1) dX8_laySums_51 rfl rfl ?_
  refine G.imul dX8_laySums_52 ?_
  replace h := bnd_mp h
  refine G.istore_n (i := 1) dX8_laySums_53 rfl (Nat.le_of_ble_eq_true rfl) ?_
  replace h := bnd_mp h
  refine G.iinc dX8_laySums_54 rfl (Nat.le_of_ble_eq_true rfl) ?_
  refine G.goto 4 dX8_laySums_57 rfl ?_
  exact hK4 _ _ _ _ _ h
set_option maxRecDepth 100000 in
theorem eb_mm_laySums_17 {K4 : Int → Int → Mem → Option (Int × Mem)} (hK4 : ∀ (x1 : Int) (x2 : Int) (o3 : Option PV) (μ : Mem) (res : (Int × Mem)), K4 x1 x2 μ = some res → G shM l D ad ca YX8_laySums 4 [some (.inr 0), some (.inl x1), some (.inl x2), o3] [] μ (some (.inl res.1)) res.2) : ∀ (n : Nat) (x1 : Int) (x2 : Int) (x3 : Int) (μ : Mem) (res : (Int × Mem)), mm_laySums_17 K4 n x1 x2 x3 μ = some res → G shM l D ad ca YX8_laySums 17 [some (.inr 0), some (.inl x1), some (.inl x2), some (.inl x3)] [] μ (some (.inl res.1)) res.2 := by
  intro n
  induction n with
  | zero =>
    intro x1 x2 x3 μ res h
    rw [mm_laySums_17] at h
    cases h
  | succ n ih =>
    intro x1 x2 x3 μ res h
    rw [mm_laySums_17] at h
    refine G.iload_n (i := 3) dX8_laySums_17 rfl rfl ?_
    refine G.iload_n (i := 1) dX8_laySums_18 rfl rfl ?_
    refine G.icmp_ge 50 dX8_laySums_19 rfl (fun c => ?_) (fun c => ?_)
    · replace h := (if_pos c).symm.trans h
      exact eb_mm_laySums_50 hK4 h
    · replace h := (if_neg c).symm.trans h
      refine G.aload_n (i := 0) dX8_laySums_22 rfl rfl ?_
      refine G.getR ck8 shM_0 18 rfl (by decide) q856 dX8_laySums_23 ?_
      refine G.iload_n (i := 1) dX8_laySums_26 rfl rfl ?_
      refine G.iload_n (i := 3) dX8_laySums_27 rfl rfl ?_
      refine G.iadd dX8_laySums_28 ?_
      refine G.aload_n (i := 0) dX8_laySums_29 rfl rfl ?_
      refine G.getR ck8 shM_0 18 rfl (by decide) q856 dX8_laySums_30 ?_
      refine G.iload_n (i := 3) dX8_laySums_33 rfl rfl ?_
      obtain ⟨v3, hv, h⟩ := bd h
      obtain ⟨hb, rfl⟩ := aget_some hv
      refine G.iald shM_10 hb dX8_laySums_34 ?_
      refine G.aload_n (i := 0) dX8_laySums_35 rfl rfl ?_
      refine G.iload_n (i := 2) dX8_laySums_36 rfl rfl ?_
      obtain ⟨v4, hv, h⟩ := bd h
      refine G.callV (e_mm_mixIn hv) cs_X8_laySums_X8_mixIn ck8 shM_0 rfl rfl (Nat.le_of_ble_eq_true rfl) q942 q944 q36 dX8_laySums_37 ?_
      obtain ⟨v5, hv, h⟩ := bd h
      refine G.callS (e_mm_mixed hv) cs_X8_laySums_X8_mixed rfl (Nat.le_of_ble_eq_true rfl) q946 q947 dX8_laySums_40 ?_
      obtain ⟨μ6, hv, h⟩ := bd h
      obtain ⟨hb, rfl⟩ := aput_some hv
      refine G.iast shM_10 hb dX8_laySums_43 ?_
      replace h := bnd_mp h
      refine G.iinc dX8_laySums_44 rfl (Nat.le_of_ble_eq_true rfl) ?_
      refine G.goto 17 dX8_laySums_47 rfl ?_
      exact ih _ _ _ _ _ h
set_option maxRecDepth 100000 in
theorem eb_mm_laySums_4 : ∀ (n : Nat) (x1 : Int) (x2 : Int) (o3 : Option PV) (μ : Mem) (res : (Int × Mem)), mm_laySums_4 n x1 x2 μ = some res → G shM l D ad ca YX8_laySums 4 [some (.inr 0), some (.inl x1), some (.inl x2), o3] [] μ (some (.inl res.1)) res.2 := by
  intro n
  induction n with
  | zero =>
    intro x1 x2 o3 μ res h
    rw [mm_laySums_4] at h
    cases h
  | succ n ih =>
    intro x1 x2 o3 μ res h
    rw [mm_laySums_4] at h
    refine G.iload_n (i := 2) dX8_laySums_4 rfl rfl ?_
    refine G.aload_n (i := 0) dX8_laySums_5 rfl rfl ?_
    refine G.getR ck8 shM_0 0 rfl (by decide) q838 dX8_laySums_6 ?_
    refine G.bipush dX8_laySums_9 kb_8 ?_
    refine G.ialdc 8 shM_1 rfl (by decide) dX8_laySums_11 ?_
    refine G.icmp_ge 60 dX8_laySums_12 rfl (fun c => ?_) (fun c => ?_)
    · replace h := (if_pos c).symm.trans h
      exact eb_mm_laySums_60  h
    · replace h := (if_neg c).symm.trans h
      refine G.iconst dX8_laySums_15 ki_0 ?_
      refine G.istore_n (i := 3) dX8_laySums_16 rfl (Nat.le_of_ble_eq_true rfl) ?_
      exact eb_mm_laySums_17 ih _ _ _ _ _ _ h
set_option maxRecDepth 100000 in
theorem e_mm_laySums {μ : Mem} {res : (Int × Mem)} (h : mm_laySums μ = some res) : GM shM l D ad ca YX8_laySums [.inr 0] μ (some (.inl res.1)) res.2 := by
  refine GM.of (L := [some (.inr 0), none, none, none]) (by decide +kernel) rfl (Nat.le_of_ble_eq_true rfl) ?_
  rw [mm_laySums] at h
  refine G.iconst dX8_laySums_0 ki_1 ?_
  refine G.istore_n (i := 1) dX8_laySums_1 rfl (Nat.le_of_ble_eq_true rfl) ?_
  refine G.iconst dX8_laySums_2 ki_0 ?_
  refine G.istore_n (i := 2) dX8_laySums_3 rfl (Nat.le_of_ble_eq_true rfl) ?_
  exact eb_mm_laySums_4  _ _ _ _ _ _ h
set_option maxRecDepth 100000 in
theorem eb_mm_size_21 {x1 : Int} {o0 : Option PV} {o2 : Option PV} {μ : Mem} {res : Int} (h : mm_size_21 x1 = some res) : G shM l D ad ca YX8_size 21 [o0, some (.inl x1), o2] [] μ (some (.inl res)) μ := by
  rw [mm_size_21] at h
  refine G.iload_n (i := 1) dX8_size_21 rfl rfl ?_
  cases h
  exact G.iret dX8_size_22 rfl
set_option maxRecDepth 100000 in
theorem eb_mm_size_4 : ∀ (n : Nat) (x1 : Int) (x2 : Int) (o0 : Option PV) (μ : Mem) (res : Int), mm_size_4 n x1 x2 = some res → G shM l D ad ca YX8_size 4 [o0, some (.inl x1), some (.inl x2)] [] μ (some (.inl res)) μ := by
  intro n
  induction n with
  | zero =>
    intro x1 x2 o0 μ res h
    rw [mm_size_4] at h
    cases h
  | succ n ih =>
    intro x1 x2 o0 μ res h
    rw [mm_size_4] at h
    refine G.iload_n (i := 2) dX8_size_4 rfl rfl ?_
    refine G.if_le 21 dX8_size_5 rfl (fun c => ?_) (fun c => ?_)
    · replace h := (if_pos c).symm.trans h
      exact eb_mm_size_21  h
    · replace h := (if_neg c).symm.trans h
      refine G.iload_n (i := 1) dX8_size_8 rfl rfl ?_
      refine G.iload_n (i := 2) dX8_size_9 rfl rfl ?_
      refine G.iconst dX8_size_10 ki_2 ?_
      refine G.irem dX8_size_11 (by decide) ?_
      refine G.iadd dX8_size_12 ?_
      replace h := bnd_mp h
      refine G.istore_n (i := 1) dX8_size_13 rfl (Nat.le_of_ble_eq_true rfl) ?_
      refine G.iload_n (i := 2) dX8_size_14 rfl rfl ?_
      refine G.iconst dX8_size_15 ki_2 ?_
      refine G.idiv dX8_size_16 (by decide) ?_
      replace h := bnd_mp h
      refine G.istore_n (i := 2) dX8_size_17 rfl (Nat.le_of_ble_eq_true rfl) ?_
      refine G.goto 4 dX8_size_18 rfl ?_
      exact ih _ _ _ _ _ h
set_option maxRecDepth 100000 in
theorem e_mm_size {a1 : Int} {μ : Mem} {res : Int} (h : mm_size a1 = some res) : GM shM l D ad ca YX8_size [.inl a1] μ (some (.inl res)) μ := by
  refine GM.of (L := [some (.inl a1), none, none]) (by decide +kernel) rfl (Nat.le_of_ble_eq_true rfl) ?_
  rw [mm_size] at h
  refine G.iconst dX8_size_0 ki_0 ?_
  refine G.istore_n (i := 1) dX8_size_1 rfl (Nat.le_of_ble_eq_true rfl) ?_
  refine G.iload_n (i := 0) dX8_size_2 rfl rfl ?_
  refine G.istore_n (i := 2) dX8_size_3 rfl (Nat.le_of_ble_eq_true rfl) ?_
  exact eb_mm_size_4  _ _ _ _ _ _ h
set_option maxRecDepth 100000 in
theorem eb_mm_fewest_16 {o1 : Option PV} {o2 : Option PV} {o3 : Option PV} {o4 : Option PV} {o5 : Option PV} {o6 : Option PV} {o7 : Option PV} {μ : Mem} {res : (Int × Mem)} (h : mm_fewest_16 μ = some res) : G shM l D ad ca YX8_fewest 16 [some (.inr 0), o1, o2, o3, o4, o5, o6, o7] [] μ (some (.inl res.1)) res.2 := by
  rw [mm_fewest_16] at h
  refine G.bipush dX8_fewest_16 kb_m2 ?_
  cases h
  exact G.iret dX8_fewest_18 rfl
set_option maxRecDepth 100000 in
theorem eb_mm_fewest_134 {s0 : Int} {o1 : Option PV} {o2 : Option PV} {o3 : Option PV} {o4 : Option PV} {o5 : Option PV} {o6 : Option PV} {o7 : Option PV} {μ : Mem} {res : (Int × Mem)} (h : mm_fewest_134 s0 μ = some res) : G shM l D ad ca YX8_fewest 134 [some (.inr 0), o1, o2, o3, o4, o5, o6, o7] [.inl s0] μ (some (.inl res.1)) res.2 := by
  rw [mm_fewest_134] at h
  cases h
  exact G.iret dX8_fewest_134 rfl
set_option maxRecDepth 100000 in
theorem eb_mm_fewest_108 {x2 : Int} {x5 : Int} {o1 : Option PV} {o3 : Option PV} {o4 : Option PV} {o6 : Option PV} {o7 : Option PV} {μ : Mem} {res : (Int × Mem)} (h : mm_fewest_108 x2 x5 μ = some res) : G shM l D ad ca YX8_fewest 108 [some (.inr 0), o1, some (.inl x2), o3, o4, some (.inl x5), o6, o7] [] μ (some (.inl res.1)) res.2 := by
  rw [mm_fewest_108] at h
  refine G.iload dX8_fewest_108 rfl ?_
  refine G.bipush dX8_fewest_110 kb_m5 ?_
  refine G.icmp_ne 120 dX8_fewest_112 rfl (fun c => ?_) (fun c => ?_)
  · replace h := (if_neg c).symm.trans h
    refine G.iload_n (i := 2) dX8_fewest_120 rfl rfl ?_
    refine G.if_ne 132 dX8_fewest_121 rfl (fun c => ?_) (fun c => ?_)
    · replace h := (if_neg c).symm.trans h
      refine G.iload dX8_fewest_132 rfl ?_
      exact eb_mm_fewest_134  h
    · replace h := (if_pos c).symm.trans h
      refine G.iload dX8_fewest_124 rfl ?_
      obtain ⟨v7, hv, h⟩ := bd h
      refine G.callS (e_mm_size hv) cs_X8_fewest_X8_size rfl (Nat.le_of_ble_eq_true rfl) q1148 q1149 dX8_fewest_126 ?_
      refine G.goto 134 dX8_fewest_129 rfl ?_
      exact eb_mm_fewest_134  h
  · replace h := (if_pos c).symm.trans h
    refine G.bipush dX8_fewest_115 kb_m5 ?_
    refine G.goto 134 dX8_fewest_117 rfl ?_
    exact eb_mm_fewest_134  h
set_option maxRecDepth 100000 in
theorem eb_mm_fewest_100 {K38 : Int → Int → Int → Int → Int → Mem → Option (Int × Mem)} (hK38 : ∀ (x2 : Int) (x3 : Int) (x4 : Int) (x5 : Int) (x6 : Int) (o1 : Option PV) (o7 : Option PV) (μ : Mem) (res : (Int × Mem)), K38 x2 x3 x4 x5 x6 μ = some res → G shM l D ad ca YX8_fewest 38 [some (.inr 0), o1, some (.inl x2), some (.inl x3), some (.inl x4), some (.inl x5), some (.inl x6), o7] [] μ (some (.inl res.1)) res.2) {x2 : Int} {x3 : Int} {x4 : Int} {x6 : Int} {s0 : Int} {o1 : Option PV} {o5 : Option PV} {o7 : Option PV} {μ : Mem} {res : (Int × Mem)} (h : mm_fewest_100 K38 x2 x3 x4 x6 s0 μ = some res) : G shM l D ad ca YX8_fewest 100 [some (.inr 0), o1, some (.inl x2), some (.inl x3), some (.inl x4), o5, some (.inl x6), o7] [.inl s0] μ (some (.inl res.1)) res.2 := by
  rw [mm_fewest_100] at h
  refine G.istore dX8_fewest_100 (Nat.le_of_ble_eq_true rfl) ?_
  replace h := bnd_mp h
  refine G.iinc dX8_fewest_102 rfl (Nat.le_of_ble_eq_true rfl) ?_
  refine G.goto 38 dX8_fewest_105 rfl ?_
  exact hK38 _ _ _ _ _ _ _ _ _ h
set_option maxRecDepth 100000 in
theorem eb_mm_fewest_86 {K38 : Int → Int → Int → Int → Int → Mem → Option (Int × Mem)} (hK38 : ∀ (x2 : Int) (x3 : Int) (x4 : Int) (x5 : Int) (x6 : Int) (o1 : Option PV) (o7 : Option PV) (μ : Mem) (res : (Int × Mem)), K38 x2 x3 x4 x5 x6 μ = some res → G shM l D ad ca YX8_fewest 38 [some (.inr 0), o1, some (.inl x2), some (.inl x3), some (.inl x4), some (.inl x5), some (.inl x6), o7] [] μ (some (.inl res.1)) res.2) {x2 : Int} {x3 : Int} {x4 : Int} {x5 : Int} {x6 : Int} {s0 : Int} {o1 : Option PV} {o7 : Option PV} {μ : Mem} {res : (Int × Mem)} (h : mm_fewest_86 K38 x2 x3 x4 x5 x6 s0 μ = some res) : G shM l D ad ca YX8_fewest 86 [some (.inr 0), o1, some (.inl x2), some (.inl x3), some (.inl x4), some (.inl x5), some (.inl x6), o7] [.inl s0] μ (some (.inl res.1)) res.2 := by
  rw [mm_fewest_86] at h
  refine G.istore dX8_fewest_86 (Nat.le_of_ble_eq_true rfl) ?_
  refine G.iload dX8_fewest_88 rfl ?_
  refine G.if_eq 98 dX8_fewest_90 rfl (fun c => ?_) (fun c => ?_)
  · replace h := (if_pos c).symm.trans h
    refine G.iload dX8_fewest_98 rfl ?_
    exact eb_mm_fewest_100 hK38 h
  · replace h := (if_neg c).symm.trans h
    refine G.iload dX8_fewest_93 rfl ?_
    refine G.goto 100 dX8_fewest_95 rfl ?_
    exact eb_mm_fewest_100 hK38 h
set_option maxRecDepth 100000 in
theorem eb_mm_fewest_85 {K38 : Int → Int → Int → Int → Int → Mem → Option (Int × Mem)} (hK38 : ∀ (x2 : Int) (x3 : Int) (x4 : Int) (x5 : Int) (x6 : Int) (o1 : Option PV) (o7 : Option PV) (μ : Mem) (res : (Int × Mem)), K38 x2 x3 x4 x5 x6 μ = some res → G shM l D ad ca YX8_fewest 38 [some (.inr 0), o1, some (.inl x2), some (.inl x3), some (.inl x4), some (.inl x5), some (.inl x6), o7] [] μ (some (.inl res.1)) res.2) {x2 : Int} {x3 : Int} {x4 : Int} {x5 : Int} {x6 : Int} {o1 : Option PV} {o7 : Option PV} {μ : Mem} {res : (Int × Mem)} (h : mm_fewest_85 K38 x2 x3 x4 x5 x6 μ = some res) : G shM l D ad ca YX8_fewest 85 [some (.inr 0), o1, some (.inl x2), some (.inl x3), some (.inl x4), some (.inl x5), some (.inl x6), o7] [] μ (some (.inl res.1)) res.2 := by
  rw [mm_fewest_85] at h
  refine G.iconst dX8_fewest_85 ki_0 ?_
  exact eb_mm_fewest_86 hK38 h
set_option maxRecDepth 100000 in
theorem eb_mm_fewest_81 {K38 : Int → Int → Int → Int → Int → Mem → Option (Int × Mem)} (hK38 : ∀ (x2 : Int) (x3 : Int) (x4 : Int) (x5 : Int) (x6 : Int) (o1 : Option PV) (o7 : Option PV) (μ : Mem) (res : (Int × Mem)), K38 x2 x3 x4 x5 x6 μ = some res → G shM l D ad ca YX8_fewest 38 [some (.inr 0), o1, some (.inl x2), some (.inl x3), some (.inl x4), some (.inl x5), some (.inl x6), o7] [] μ (some (.inl res.1)) res.2) {x2 : Int} {x3 : Int} {x4 : Int} {x5 : Int} {x6 : Int} {o1 : Option PV} {o7 : Option PV} {μ : Mem} {res : (Int × Mem)} (h : mm_fewest_81 K38 x2 x3 x4 x5 x6 μ = some res) : G shM l D ad ca YX8_fewest 81 [some (.inr 0), o1, some (.inl x2), some (.inl x3), some (.inl x4), some (.inl x5), some (.inl x6), o7] [] μ (some (.inl res.1)) res.2 := by
  rw [mm_fewest_81] at h
  refine G.iconst dX8_fewest_81 ki_1 ?_
  refine G.goto 86 dX8_fewest_82 rfl ?_
  exact eb_mm_fewest_86 hK38 h
set_option maxRecDepth 100000 in
theorem eb_mm_fewest_38 : ∀ (n : Nat) (x2 : Int) (x3 : Int) (x4 : Int) (x5 : Int) (x6 : Int) (o1 : Option PV) (o7 : Option PV) (μ : Mem) (res : (Int × Mem)), mm_fewest_38 n x2 x3 x4 x5 x6 μ = some res → G shM l D ad ca YX8_fewest 38 [some (.inr 0), o1, some (.inl x2), some (.inl x3), some (.inl x4), some (.inl x5), some (.inl x6), o7] [] μ (some (.inl res.1)) res.2 := by
  intro n
  induction n with
  | zero =>
    intro x2 x3 x4 x5 x6 o1 o7 μ res h
    rw [mm_fewest_38] at h
    cases h
  | succ n ih =>
    intro x2 x3 x4 x5 x6 o1 o7 μ res h
    rw [mm_fewest_38] at h
    refine G.iload dX8_fewest_38 rfl ?_
    refine G.iload dX8_fewest_40 rfl ?_
    refine G.icmp_ge 108 dX8_fewest_42 rfl (fun c => ?_) (fun c => ?_)
    · replace h := (if_pos c).symm.trans h
      exact eb_mm_fewest_108  h
    · replace h := (if_neg c).symm.trans h
      refine G.aload_n (i := 0) dX8_fewest_45 rfl rfl ?_
      refine G.getR ck8 shM_0 11 rfl (by decide) q849 dX8_fewest_46 ?_
      refine G.aload_n (i := 0) dX8_fewest_49 rfl rfl ?_
      refine G.getR ck8 shM_0 18 rfl (by decide) q856 dX8_fewest_50 ?_
      refine G.iload dX8_fewest_53 rfl ?_
      obtain ⟨v8, hv, h⟩ := bd h
      obtain ⟨hb, rfl⟩ := aget_some hv
      refine G.iald shM_10 hb dX8_fewest_55 ?_
      obtain ⟨v9, hv, h⟩ := bd h
      obtain ⟨hb, rfl⟩ := aget_some hv
      refine G.iald shM_7 hb dX8_fewest_56 ?_
      refine G.iload_n (i := 3) dX8_fewest_57 rfl rfl ?_
      refine G.icmp_ne 85 dX8_fewest_58 rfl (fun c => ?_) (fun c => ?_)
      · replace h := (if_neg c).symm.trans h
        exact eb_mm_fewest_85 ih h
      · replace h := (if_pos c).symm.trans h
        refine G.iload dX8_fewest_61 rfl ?_
        refine G.bipush dX8_fewest_63 kb_m5 ?_
        refine G.icmp_eq 81 dX8_fewest_65 rfl (fun c => ?_) (fun c => ?_)
        · replace h := (if_pos c).symm.trans h
          exact eb_mm_fewest_81 ih h
        · replace h := (if_neg c).symm.trans h
          refine G.iload dX8_fewest_68 rfl ?_
          obtain ⟨v11, hv, h⟩ := bd h
          refine G.callS (e_mm_size hv) cs_X8_fewest_X8_size rfl (Nat.le_of_ble_eq_true rfl) q1148 q1149 dX8_fewest_70 ?_
          refine G.iload dX8_fewest_73 rfl ?_
          obtain ⟨v12, hv, h⟩ := bd h
          refine G.callS (e_mm_size hv) cs_X8_fewest_X8_size rfl (Nat.le_of_ble_eq_true rfl) q1148 q1149 dX8_fewest_75 ?_
          refine G.icmp_ge 85 dX8_fewest_78 rfl (fun c => ?_) (fun c => ?_)
          · replace h := (if_pos c).symm.trans h
            exact eb_mm_fewest_85 ih h
          · replace h := (if_neg c).symm.trans h
            exact eb_mm_fewest_81 ih h
set_option maxRecDepth 100000 in
theorem e_mm_fewest {a1 : Int} {a2 : Int} {μ : Mem} {res : (Int × Mem)} (h : mm_fewest a1 a2 μ = some res) : GM shM l D ad ca YX8_fewest [.inr 0, .inl a1, .inl a2] μ (some (.inl res.1)) res.2 := by
  refine GM.of (L := [some (.inr 0), some (.inl a1), some (.inl a2), none, none, none, none, none]) (by decide +kernel) rfl (Nat.le_of_ble_eq_true rfl) ?_
  rw [mm_fewest] at h
  refine G.iload_n (i := 1) dX8_fewest_0 rfl rfl ?_
  obtain ⟨v1, hv, h⟩ := bd h
  refine G.callS (e_mm_isMix hv) cs_X8_fewest_X8_isMix rfl (Nat.le_of_ble_eq_true rfl) q901 q902 dX8_fewest_1 ?_
  refine G.if_eq 16 dX8_fewest_4 rfl (fun c => ?_) (fun c => ?_)
  · replace h := (if_pos c).symm.trans h
    exact eb_mm_fewest_16  h
  · replace h := (if_neg c).symm.trans h
    refine G.iload_n (i := 2) dX8_fewest_7 rfl rfl ?_
    refine G.iconst dX8_fewest_8 ki_0 ?_
    refine G.iconst dX8_fewest_9 ki_1 ?_
    obtain ⟨v2, hv, h⟩ := bd h
    refine G.callS (e_mm_in hv) cs_X8_fewest_X8_in rfl (Nat.le_of_ble_eq_true rfl) q904 q905 dX8_fewest_10 ?_
    refine G.if_ne 19 dX8_fewest_13 rfl (fun c => ?_) (fun c => ?_)
    · replace h := (if_neg c).symm.trans h
      refine G.aload_n (i := 0) dX8_fewest_19 rfl rfl ?_
      refine G.iload_n (i := 1) dX8_fewest_20 rfl rfl ?_
      obtain ⟨p3, hv, h⟩ := bd h
      refine G.callV (e_mm_taste hv) cs_X8_fewest_X8_taste ck8 shM_0 rfl rfl (Nat.le_of_ble_eq_true rfl) q1013 q1015 q46 dX8_fewest_21 ?_
      replace h := bnd_mp h
      refine G.istore_n (i := 3) dX8_fewest_24 rfl (Nat.le_of_ble_eq_true rfl) ?_
      refine G.aload_n (i := 0) dX8_fewest_25 rfl rfl ?_
      obtain ⟨p5, hv, h⟩ := bd h
      refine G.callV (e_mm_laySums hv) cs_X8_fewest_X8_laySums ck8 shM_0 rfl rfl (Nat.le_of_ble_eq_true rfl) q1144 q1146 q60 dX8_fewest_26 ?_
      replace h := bnd_mp h
      refine G.istore dX8_fewest_29 (Nat.le_of_ble_eq_true rfl) ?_
      refine G.bipush dX8_fewest_31 kb_m5 ?_
      refine G.istore dX8_fewest_33 (Nat.le_of_ble_eq_true rfl) ?_
      refine G.iconst dX8_fewest_35 ki_0 ?_
      refine G.istore dX8_fewest_36 (Nat.le_of_ble_eq_true rfl) ?_
      exact eb_mm_fewest_38  _ _ _ _ _ _ _ _ _ _ h
    · replace h := (if_pos c).symm.trans h
      exact eb_mm_fewest_16  h
set_option maxRecDepth 100000 in
theorem eb_mm_ifPoured_26 {o1 : Option PV} {o2 : Option PV} {o3 : Option PV} {o4 : Option PV} {μ : Mem} {res : (Int × Mem)} (h : mm_ifPoured_26 μ = some res) : G shM l D ad ca YX8_ifPoured 26 [some (.inr 0), o1, o2, o3, o4] [] μ (some (.inl res.1)) res.2 := by
  rw [mm_ifPoured_26] at h
  refine G.iconst dX8_ifPoured_26 ki_m1 ?_
  cases h
  exact G.iret dX8_ifPoured_27 rfl
set_option maxRecDepth 100000 in
theorem eb_mm_ifPoured_57 {s0 : Int} {o1 : Option PV} {o2 : Option PV} {o3 : Option PV} {o4 : Option PV} {μ : Mem} {res : (Int × Mem)} (h : mm_ifPoured_57 s0 μ = some res) : G shM l D ad ca YX8_ifPoured 57 [some (.inr 0), o1, o2, o3, o4] [.inl s0] μ (some (.inl res.1)) res.2 := by
  rw [mm_ifPoured_57] at h
  cases h
  exact G.iret dX8_ifPoured_57 rfl
set_option maxRecDepth 100000 in
theorem e_mm_ifPoured {a1 : Int} {a2 : Int} {μ : Mem} {res : (Int × Mem)} (h : mm_ifPoured a1 a2 μ = some res) : GM shM l D ad ca YX8_ifPoured [.inr 0, .inl a1, .inl a2] μ (some (.inl res.1)) res.2 := by
  refine GM.of (L := [some (.inr 0), some (.inl a1), some (.inl a2), none, none]) (by decide +kernel) rfl (Nat.le_of_ble_eq_true rfl) ?_
  rw [mm_ifPoured] at h
  refine G.aload_n (i := 0) dX8_ifPoured_0 rfl rfl ?_
  refine G.iload_n (i := 1) dX8_ifPoured_1 rfl rfl ?_
  obtain ⟨v1, hv, h⟩ := bd h
  refine G.callV (e_mm_find hv) cs_X8_ifPoured_X8_find ck8 shM_0 rfl rfl (Nat.le_of_ble_eq_true rfl) q934 q936 q34 dX8_ifPoured_2 ?_
  refine G.istore_n (i := 3) dX8_ifPoured_5 rfl (Nat.le_of_ble_eq_true rfl) ?_
  refine G.aload_n (i := 0) dX8_ifPoured_6 rfl rfl ?_
  refine G.iload_n (i := 2) dX8_ifPoured_7 rfl rfl ?_
  obtain ⟨v2, hv, h⟩ := bd h
  refine G.callV (e_mm_find hv) cs_X8_ifPoured_X8_find ck8 shM_0 rfl rfl (Nat.le_of_ble_eq_true rfl) q934 q936 q34 dX8_ifPoured_8 ?_
  refine G.istore dX8_ifPoured_11 (Nat.le_of_ble_eq_true rfl) ?_
  refine G.iload_n (i := 3) dX8_ifPoured_13 rfl rfl ?_
  refine G.bipush dX8_ifPoured_14 kb_m5 ?_
  refine G.icmp_eq 26 dX8_ifPoured_16 rfl (fun c => ?_) (fun c => ?_)
  · replace h := (if_pos c).symm.trans h
    exact eb_mm_ifPoured_26  h
  · replace h := (if_neg c).symm.trans h
    refine G.iload dX8_ifPoured_19 rfl ?_
    refine G.bipush dX8_ifPoured_21 kb_m5 ?_
    refine G.icmp_ne 28 dX8_ifPoured_23 rfl (fun c => ?_) (fun c => ?_)
    · replace h := (if_neg c).symm.trans h
      refine G.iload_n (i := 3) dX8_ifPoured_28 rfl rfl ?_
      refine G.iload dX8_ifPoured_29 rfl ?_
      refine G.icmp_ne 39 dX8_ifPoured_31 rfl (fun c => ?_) (fun c => ?_)
      · replace h := (if_neg c).symm.trans h
        refine G.aload_n (i := 0) dX8_ifPoured_39 rfl rfl ?_
        refine G.aload_n (i := 0) dX8_ifPoured_40 rfl rfl ?_
        refine G.iload_n (i := 3) dX8_ifPoured_41 rfl rfl ?_
        obtain ⟨v3, hv, h⟩ := bd h
        refine G.callV (e_mm_mixIn hv) cs_X8_ifPoured_X8_mixIn ck8 shM_0 rfl rfl (Nat.le_of_ble_eq_true rfl) q942 q944 q36 dX8_ifPoured_42 ?_
        refine G.aload_n (i := 0) dX8_ifPoured_45 rfl rfl ?_
        refine G.iload dX8_ifPoured_46 rfl ?_
        obtain ⟨v4, hv, h⟩ := bd h
        refine G.callV (e_mm_mixIn hv) cs_X8_ifPoured_X8_mixIn ck8 shM_0 rfl rfl (Nat.le_of_ble_eq_true rfl) q942 q944 q36 dX8_ifPoured_48 ?_
        obtain ⟨v5, hv, h⟩ := bd h
        refine G.callS (e_mm_mixed hv) cs_X8_ifPoured_X8_mixed rfl (Nat.le_of_ble_eq_true rfl) q946 q947 dX8_ifPoured_51 ?_
        obtain ⟨p6, hv, h⟩ := bd h
        refine G.callV (e_mm_taste hv) cs_X8_ifPoured_X8_taste ck8 shM_0 rfl rfl (Nat.le_of_ble_eq_true rfl) q1013 q1015 q46 dX8_ifPoured_54 ?_
        exact eb_mm_ifPoured_57  h
      · replace h := (if_pos c).symm.trans h
        refine G.bipush dX8_ifPoured_34 kb_m2 ?_
        refine G.goto 57 dX8_ifPoured_36 rfl ?_
        exact eb_mm_ifPoured_57  h
    · replace h := (if_pos c).symm.trans h
      exact eb_mm_ifPoured_26  h
set_option maxRecDepth 100000 in
theorem e_mm_jar {a1 : Int} {μ : Mem} {res : (Int × Mem)} (h : mm_jar a1 μ = some res) : GM shM l D ad ca YX8_jar [.inr 0, .inl a1] μ (some (.inl res.1)) res.2 := by
  refine GM.of (L := [some (.inr 0), some (.inl a1)]) (by decide +kernel) rfl (Nat.le_of_ble_eq_true rfl) ?_
  rw [mm_jar] at h
  refine G.iload_n (i := 1) dX8_jar_0 rfl rfl ?_
  obtain ⟨v1, hv, h⟩ := bd h
  refine G.callS (e_mm_isMix hv) cs_X8_jar_X8_isMix rfl (Nat.le_of_ble_eq_true rfl) q901 q902 dX8_jar_1 ?_
  refine G.if_ne 10 dX8_jar_4 rfl (fun c => ?_) (fun c => ?_)
  · replace h := (if_neg c).symm.trans h
    refine G.aload_n (i := 0) dX8_jar_10 rfl rfl ?_
    obtain ⟨μ2, hv, h⟩ := bd h
    refine G.callV (e_mm_putAside hv) cs_X8_jar_X8_putAside ck8 shM_0 rfl rfl (Nat.le_of_ble_eq_true rfl) q907 q909 q29 dX8_jar_11 ?_
    refine G.aload_n (i := 0) dX8_jar_14 rfl rfl ?_
    refine G.aload_n (i := 0) dX8_jar_15 rfl rfl ?_
    refine G.iload_n (i := 1) dX8_jar_16 rfl rfl ?_
    refine G.iload_n (i := 1) dX8_jar_17 rfl rfl ?_
    obtain ⟨v3, hv, h⟩ := bd h
    refine G.callS (e_mm_units hv) cs_X8_jar_X8_units rfl (Nat.le_of_ble_eq_true rfl) q911 q912 dX8_jar_18 ?_
    refine G.aload_n (i := 0) dX8_jar_21 rfl rfl ?_
    refine G.iload_n (i := 1) dX8_jar_22 rfl rfl ?_
    obtain ⟨v4, hv, h⟩ := bd h
    refine G.callV (e_mm_priceOf hv) cs_X8_jar_X8_priceOf ck8 shM_0 rfl rfl (Nat.le_of_ble_eq_true rfl) q914 q916 q30 dX8_jar_23 ?_
    obtain ⟨p5, hv, h⟩ := bd h
    refine G.callV (e_mm_comes hv) cs_X8_jar_X8_comes ck8 shM_0 rfl rfl (Nat.le_of_ble_eq_true rfl) q918 q920 q31 dX8_jar_26 ?_
    obtain ⟨p6, hv, h⟩ := bd h
    refine G.callV (e_mm_act hv) cs_X8_jar_X8_act ck8 shM_0 rfl rfl (Nat.le_of_ble_eq_true rfl) q922 q924 q32 dX8_jar_29 ?_
    cases h
    exact G.iret dX8_jar_32 rfl
  · replace h := (if_pos c).symm.trans h
    refine G.bipush dX8_jar_7 kb_m2 ?_
    cases h
    exact G.iret dX8_jar_9 rfl
set_option maxRecDepth 100000 in
theorem eb_mm_cheapest_67 {x3 : Int} {o1 : Option PV} {o2 : Option PV} {o4 : Option PV} {o5 : Option PV} {μ : Mem} {res : (Int × Mem)} (h : mm_cheapest_67 x3 μ = some res) : G shM l D ad ca YX8_cheapest 67 [some (.inr 0), o1, o2, some (.inl x3), o4, o5] [] μ (some (.inl res.1)) res.2 := by
  rw [mm_cheapest_67] at h
  refine G.iload_n (i := 3) dX8_cheapest_67 rfl rfl ?_
  cases h
  exact G.iret dX8_cheapest_68 rfl
set_option maxRecDepth 100000 in
theorem eb_mm_cheapest_61 {K20 : Int → Int → Int → Int → Mem → Option (Int × Mem)} (hK20 : ∀ (x2 : Int) (x3 : Int) (x4 : Int) (x5 : Int) (o1 : Option PV) (μ : Mem) (res : (Int × Mem)), K20 x2 x3 x4 x5 μ = some res → G shM l D ad ca YX8_cheapest 20 [some (.inr 0), o1, some (.inl x2), some (.inl x3), some (.inl x4), some (.inl x5)] [] μ (some (.inl res.1)) res.2) {x2 : Int} {x3 : Int} {x4 : Int} {x5 : Int} {o1 : Option PV} {μ : Mem} {res : (Int × Mem)} (h : mm_cheapest_61 K20 x2 x3 x4 x5 μ = some res) : G shM l D ad ca YX8_cheapest 61 [some (.inr 0), o1, some (.inl x2), some (.inl x3), some (.inl x4), some (.inl x5)] [] μ (some (.inl res.1)) res.2 := by
  rw [mm_cheapest_61] at h
  replace h := bnd_mp h
  refine G.iinc dX8_cheapest_61 rfl (Nat.le_of_ble_eq_true rfl) ?_
  refine G.goto 20 dX8_cheapest_64 rfl ?_
  exact hK20 _ _ _ _ _ _ _ h
set_option maxRecDepth 100000 in
theorem eb_mm_cheapest_20 : ∀ (n : Nat) (x2 : Int) (x3 : Int) (x4 : Int) (x5 : Int) (o1 : Option PV) (μ : Mem) (res : (Int × Mem)), mm_cheapest_20 n x2 x3 x4 x5 μ = some res → G shM l D ad ca YX8_cheapest 20 [some (.inr 0), o1, some (.inl x2), some (.inl x3), some (.inl x4), some (.inl x5)] [] μ (some (.inl res.1)) res.2 := by
  intro n
  induction n with
  | zero =>
    intro x2 x3 x4 x5 o1 μ res h
    rw [mm_cheapest_20] at h
    cases h
  | succ n ih =>
    intro x2 x3 x4 x5 o1 μ res h
    rw [mm_cheapest_20] at h
    refine G.iload dX8_cheapest_20 rfl ?_
    refine G.sipush dX8_cheapest_22 ks_6561 ?_
    refine G.icmp_ge 67 dX8_cheapest_25 rfl (fun c => ?_) (fun c => ?_)
    · replace h := (if_pos c).symm.trans h
      exact eb_mm_cheapest_67  h
    · replace h := (if_neg c).symm.trans h
      refine G.aload_n (i := 0) dX8_cheapest_28 rfl rfl ?_
      refine G.getR ck8 shM_0 11 rfl (by decide) q849 dX8_cheapest_29 ?_
      refine G.iload dX8_cheapest_32 rfl ?_
      obtain ⟨v5, hv, h⟩ := bd h
      obtain ⟨hb, rfl⟩ := aget_some hv
      refine G.iald shM_7 hb dX8_cheapest_34 ?_
      refine G.iload_n (i := 2) dX8_cheapest_35 rfl rfl ?_
      refine G.icmp_ne 61 dX8_cheapest_36 rfl (fun c => ?_) (fun c => ?_)
      · replace h := (if_neg c).symm.trans h
        exact eb_mm_cheapest_61 ih h
      · replace h := (if_pos c).symm.trans h
        refine G.aload_n (i := 0) dX8_cheapest_39 rfl rfl ?_
        refine G.iload dX8_cheapest_40 rfl ?_
        obtain ⟨v7, hv, h⟩ := bd h
        refine G.callV (e_mm_priceOf hv) cs_X8_cheapest_X8_priceOf ck8 shM_0 rfl rfl (Nat.le_of_ble_eq_true rfl) q914 q916 q30 dX8_cheapest_42 ?_
        refine G.iload dX8_cheapest_45 rfl ?_
        refine G.icmp_ge 61 dX8_cheapest_47 rfl (fun c => ?_) (fun c => ?_)
        · replace h := (if_pos c).symm.trans h
          exact eb_mm_cheapest_61 ih h
        · replace h := (if_neg c).symm.trans h
          refine G.iload dX8_cheapest_50 rfl ?_
          refine G.istore_n (i := 3) dX8_cheapest_52 rfl (Nat.le_of_ble_eq_true rfl) ?_
          refine G.aload_n (i := 0) dX8_cheapest_53 rfl rfl ?_
          refine G.iload dX8_cheapest_54 rfl ?_
          obtain ⟨v8, hv, h⟩ := bd h
          refine G.callV (e_mm_priceOf hv) cs_X8_cheapest_X8_priceOf ck8 shM_0 rfl rfl (Nat.le_of_ble_eq_true rfl) q914 q916 q30 dX8_cheapest_56 ?_
          refine G.istore dX8_cheapest_59 (Nat.le_of_ble_eq_true rfl) ?_
          exact eb_mm_cheapest_61 ih h
set_option maxRecDepth 100000 in
theorem e_mm_cheapest {a1 : Int} {μ : Mem} {res : (Int × Mem)} (h : mm_cheapest a1 μ = some res) : GM shM l D ad ca YX8_cheapest [.inr 0, .inl a1] μ (some (.inl res.1)) res.2 := by
  refine GM.of (L := [some (.inr 0), some (.inl a1), none, none, none, none]) (by decide +kernel) rfl (Nat.le_of_ble_eq_true rfl) ?_
  rw [mm_cheapest] at h
  refine G.aload_n (i := 0) dX8_cheapest_0 rfl rfl ?_
  refine G.iload_n (i := 1) dX8_cheapest_1 rfl rfl ?_
  obtain ⟨p1, hv, h⟩ := bd h
  refine G.callV (e_mm_taste hv) cs_X8_cheapest_X8_taste ck8 shM_0 rfl rfl (Nat.le_of_ble_eq_true rfl) q1013 q1015 q46 dX8_cheapest_2 ?_
  replace h := bnd_mp h
  refine G.istore_n (i := 2) dX8_cheapest_5 rfl (Nat.le_of_ble_eq_true rfl) ?_
  refine G.iload_n (i := 2) dX8_cheapest_6 rfl rfl ?_
  refine G.istore_n (i := 3) dX8_cheapest_7 rfl (Nat.le_of_ble_eq_true rfl) ?_
  refine G.aload_n (i := 0) dX8_cheapest_8 rfl rfl ?_
  refine G.iload_n (i := 2) dX8_cheapest_9 rfl rfl ?_
  obtain ⟨v3, hv, h⟩ := bd h
  refine G.callV (e_mm_priceOf hv) cs_X8_cheapest_X8_priceOf ck8 shM_0 rfl rfl (Nat.le_of_ble_eq_true rfl) q914 q916 q30 dX8_cheapest_10 ?_
  refine G.istore dX8_cheapest_13 (Nat.le_of_ble_eq_true rfl) ?_
  refine G.iload_n (i := 2) dX8_cheapest_15 rfl rfl ?_
  refine G.iconst dX8_cheapest_16 ki_1 ?_
  refine G.iadd dX8_cheapest_17 ?_
  replace h := bnd_mp h
  refine G.istore dX8_cheapest_18 (Nat.le_of_ble_eq_true rfl) ?_
  exact eb_mm_cheapest_20  _ _ _ _ _ _ _ _ h
set_option maxRecDepth 100000 in
theorem eb_mm_told_62 {s0 : Int} {o1 : Option PV} {o2 : Option PV} {μ : Mem} {res : (Int × Mem)} (h : mm_told_62 s0 μ = some res) : G shM l D ad ca YX8_told 62 [some (.inr 0), o1, o2] [.inl s0] μ (some (.inl res.1)) res.2 := by
  rw [mm_told_62] at h
  cases h
  exact G.iret dX8_told_62 rfl
set_option maxRecDepth 100000 in
theorem e_mm_told {a1 : Int} {a2 : Int} {μ : Mem} {res : (Int × Mem)} (h : mm_told a1 a2 μ = some res) : GM shM l D ad ca YX8_told [.inr 0, .inl a1, .inl a2] μ (some (.inl res.1)) res.2 := by
  refine GM.of (L := [some (.inr 0), some (.inl a1), some (.inl a2)]) (by decide +kernel) rfl (Nat.le_of_ble_eq_true rfl) ?_
  rw [mm_told] at h
  refine G.iload_n (i := 2) dX8_told_0 rfl rfl ?_
  refine G.tsCase 0 32 dX8_told_1 (by decide) (by decide) rfl rfl (fun c0 => ?_) (fun c0 => ?_)
  · replace h := (if_pos c0).symm.trans h
    refine G.iload_n (i := 1) dX8_told_32 rfl rfl ?_
    obtain ⟨v1, hv, h⟩ := bd h
    refine G.callS (e_mm_units hv) cs_X8_told_X8_units rfl (Nat.le_of_ble_eq_true rfl) q911 q912 dX8_told_33 ?_
    cases h
    exact G.iret dX8_told_36 rfl
  replace h := (if_neg c0).symm.trans h
  refine G.tsCase 1 37 dX8_told_1 (by decide) (by decide) rfl rfl (fun c1 => ?_) (fun c1 => ?_)
  · replace h := (if_pos c1).symm.trans h
    refine G.aload_n (i := 0) dX8_told_37 rfl rfl ?_
    refine G.iload_n (i := 1) dX8_told_38 rfl rfl ?_
    obtain ⟨v2, hv, h⟩ := bd h
    refine G.callV (e_mm_priceOf hv) cs_X8_told_X8_priceOf ck8 shM_0 rfl rfl (Nat.le_of_ble_eq_true rfl) q914 q916 q30 dX8_told_39 ?_
    cases h
    exact G.iret dX8_told_42 rfl
  replace h := (if_neg c1).symm.trans h
  refine G.tsCase 2 43 dX8_told_1 (by decide) (by decide) rfl rfl (fun c2 => ?_) (fun c2 => ?_)
  · replace h := (if_pos c2).symm.trans h
    refine G.aload_n (i := 0) dX8_told_43 rfl rfl ?_
    refine G.iload_n (i := 1) dX8_told_44 rfl rfl ?_
    obtain ⟨p3, hv, h⟩ := bd h
    refine G.callV (e_mm_taste hv) cs_X8_told_X8_taste ck8 shM_0 rfl rfl (Nat.le_of_ble_eq_true rfl) q1013 q1015 q46 dX8_told_45 ?_
    cases h
    exact G.iret dX8_told_48 rfl
  replace h := (if_neg c2).symm.trans h
  refine G.tsCase 3 49 dX8_told_1 (by decide) (by decide) rfl rfl (fun c3 => ?_) (fun c3 => ?_)
  · replace h := (if_pos c3).symm.trans h
    refine G.aload_n (i := 0) dX8_told_49 rfl rfl ?_
    refine G.iload_n (i := 1) dX8_told_50 rfl rfl ?_
    obtain ⟨p4, hv, h⟩ := bd h
    refine G.callV (e_mm_taste hv) cs_X8_told_X8_taste ck8 shM_0 rfl rfl (Nat.le_of_ble_eq_true rfl) q1013 q1015 q46 dX8_told_51 ?_
    refine G.if_ne 61 dX8_told_54 rfl (fun c => ?_) (fun c => ?_)
    · replace h := (if_neg c).symm.trans h
      refine G.iconst dX8_told_61 ki_0 ?_
      exact eb_mm_told_62  h
    · replace h := (if_pos c).symm.trans h
      refine G.iconst dX8_told_57 ki_1 ?_
      refine G.goto 62 dX8_told_58 rfl ?_
      exact eb_mm_told_62  h
  replace h := (if_neg c3).symm.trans h
  refine G.tsOut 63 dX8_told_1 (by omega) rfl ?_
  refine G.aload_n (i := 0) dX8_told_63 rfl rfl ?_
  refine G.iload_n (i := 1) dX8_told_64 rfl rfl ?_
  obtain ⟨p5, hv, h⟩ := bd h
  refine G.callV (e_mm_cheapest hv) cs_X8_told_X8_cheapest ck8 shM_0 rfl rfl (Nat.le_of_ble_eq_true rfl) q1080 q1082 q54 dX8_told_65 ?_
  cases h
  exact G.iret dX8_told_68 rfl
set_option maxRecDepth 100000 in
theorem eb_mm_jarOf_71 {s0 : Int} {o1 : Option PV} {o2 : Option PV} {o3 : Option PV} {o4 : Option PV} {μ : Mem} {res : (Int × Mem)} (h : mm_jarOf_71 s0 μ = some res) : G shM l D ad ca YX8_jarOf 71 [some (.inr 0), o1, o2, o3, o4] [.inl s0] μ (some (.inl res.1)) res.2 := by
  rw [mm_jarOf_71] at h
  cases h
  exact G.iret dX8_jarOf_71 rfl
set_option maxRecDepth 100000 in
theorem e_mm_jarOf {a1 : Int} {a2 : Int} {μ : Mem} {res : (Int × Mem)} (h : mm_jarOf a1 a2 μ = some res) : GM shM l D ad ca YX8_jarOf [.inr 0, .inl a1, .inl a2] μ (some (.inl res.1)) res.2 := by
  refine GM.of (L := [some (.inr 0), some (.inl a1), some (.inl a2), none, none]) (by decide +kernel) rfl (Nat.le_of_ble_eq_true rfl) ?_
  rw [mm_jarOf] at h
  refine G.aload_n (i := 0) dX8_jarOf_0 rfl rfl ?_
  refine G.iload_n (i := 1) dX8_jarOf_1 rfl rfl ?_
  obtain ⟨v1, hv, h⟩ := bd h
  refine G.callV (e_mm_find hv) cs_X8_jarOf_X8_find ck8 shM_0 rfl rfl (Nat.le_of_ble_eq_true rfl) q934 q936 q34 dX8_jarOf_2 ?_
  refine G.istore_n (i := 3) dX8_jarOf_5 rfl (Nat.le_of_ble_eq_true rfl) ?_
  refine G.iload_n (i := 3) dX8_jarOf_6 rfl rfl ?_
  refine G.bipush dX8_jarOf_7 kb_m5 ?_
  refine G.icmp_ne 14 dX8_jarOf_9 rfl (fun c => ?_) (fun c => ?_)
  · replace h := (if_neg c).symm.trans h
    refine G.iload_n (i := 2) dX8_jarOf_14 rfl rfl ?_
    refine G.iconst dX8_jarOf_15 ki_0 ?_
    refine G.bipush dX8_jarOf_16 kb_6 ?_
    obtain ⟨v2, hv, h⟩ := bd h
    refine G.callS (e_mm_in hv) cs_X8_jarOf_X8_in rfl (Nat.le_of_ble_eq_true rfl) q904 q905 dX8_jarOf_18 ?_
    refine G.if_ne 27 dX8_jarOf_21 rfl (fun c => ?_) (fun c => ?_)
    · replace h := (if_neg c).symm.trans h
      refine G.aload_n (i := 0) dX8_jarOf_27 rfl rfl ?_
      refine G.iload_n (i := 3) dX8_jarOf_28 rfl rfl ?_
      obtain ⟨v3, hv, h⟩ := bd h
      refine G.callV (e_mm_mixIn hv) cs_X8_jarOf_X8_mixIn ck8 shM_0 rfl rfl (Nat.le_of_ble_eq_true rfl) q942 q944 q36 dX8_jarOf_29 ?_
      refine G.istore dX8_jarOf_32 (Nat.le_of_ble_eq_true rfl) ?_
      refine G.iload_n (i := 2) dX8_jarOf_34 rfl rfl ?_
      refine G.if_ne 43 dX8_jarOf_35 rfl (fun c => ?_) (fun c => ?_)
      · replace h := (if_neg c).symm.trans h
        refine G.iload_n (i := 2) dX8_jarOf_43 rfl rfl ?_
        refine G.bipush dX8_jarOf_44 kb_6 ?_
        refine G.icmp_ne 62 dX8_jarOf_46 rfl (fun c => ?_) (fun c => ?_)
        · replace h := (if_neg c).symm.trans h
          refine G.aload_n (i := 0) dX8_jarOf_62 rfl rfl ?_
          refine G.iload dX8_jarOf_63 rfl ?_
          refine G.iload_n (i := 2) dX8_jarOf_65 rfl rfl ?_
          refine G.iconst dX8_jarOf_66 ki_1 ?_
          refine G.isub dX8_jarOf_67 ?_
          obtain ⟨p4, hv, h⟩ := bd h
          refine G.callV (e_mm_told hv) cs_X8_jarOf_X8_told ck8 shM_0 rfl rfl (Nat.le_of_ble_eq_true rfl) q1084 q1086 q55 dX8_jarOf_68 ?_
          exact eb_mm_jarOf_71  h
        · replace h := (if_pos c).symm.trans h
          refine G.aload_n (i := 0) dX8_jarOf_49 rfl rfl ?_
          refine G.aload_n (i := 0) dX8_jarOf_50 rfl rfl ?_
          refine G.iload dX8_jarOf_51 rfl ?_
          obtain ⟨p5, hv, h⟩ := bd h
          refine G.callV (e_mm_cheapest hv) cs_X8_jarOf_X8_cheapest ck8 shM_0 rfl rfl (Nat.le_of_ble_eq_true rfl) q1080 q1082 q54 dX8_jarOf_53 ?_
          obtain ⟨v6, hv, h⟩ := bd h
          refine G.callV (e_mm_priceOf hv) cs_X8_jarOf_X8_priceOf ck8 shM_0 rfl rfl (Nat.le_of_ble_eq_true rfl) q914 q916 q30 dX8_jarOf_56 ?_
          refine G.goto 71 dX8_jarOf_59 rfl ?_
          exact eb_mm_jarOf_71  h
      · replace h := (if_pos c).symm.trans h
        refine G.iload dX8_jarOf_38 rfl ?_
        refine G.goto 71 dX8_jarOf_40 rfl ?_
        exact eb_mm_jarOf_71  h
    · replace h := (if_pos c).symm.trans h
      refine G.bipush dX8_jarOf_24 kb_m2 ?_
      cases h
      exact G.iret dX8_jarOf_26 rfl
  · replace h := (if_pos c).symm.trans h
    refine G.iconst dX8_jarOf_12 ki_m1 ?_
    cases h
    exact G.iret dX8_jarOf_13 rfl
set_option maxRecDepth 100000 in
theorem eb_mm_keep_26 {o1 : Option PV} {μ : Mem} {res : (Int × Mem)} (h : mm_keep_26 μ = some res) : G shM l D ad ca YX8_keep 26 [some (.inr 0), o1] [] μ (some (.inl res.1)) res.2 := by
  rw [mm_keep_26] at h
  refine G.aload_n (i := 0) dX8_keep_26 rfl rfl ?_
  refine G.iconst dX8_keep_27 ki_1 ?_
  replace h := bnd_mp h
  refine G.putI ck8 shM_0 5 rfl (by decide) q843 rfl rfl rfl dX8_keep_28 ?_
  refine G.aload_n (i := 0) dX8_keep_31 rfl rfl ?_
  refine G.getR ck8 shM_0 0 rfl (by decide) q838 dX8_keep_32 ?_
  refine G.bipush dX8_keep_35 kb_8 ?_
  refine G.ialdc 8 shM_1 rfl (by decide) dX8_keep_37 ?_
  cases h
  exact G.iret dX8_keep_38 rfl
set_option maxRecDepth 100000 in
theorem eb_mm_keep_2 : ∀ (n : Nat) (x1 : Int) (μ : Mem) (res : (Int × Mem)), mm_keep_2 n x1 μ = some res → G shM l D ad ca YX8_keep 2 [some (.inr 0), some (.inl x1)] [] μ (some (.inl res.1)) res.2 := by
  intro n
  induction n with
  | zero =>
    intro x1 μ res h
    rw [mm_keep_2] at h
    cases h
  | succ n ih =>
    intro x1 μ res h
    rw [mm_keep_2] at h
    refine G.iload_n (i := 1) dX8_keep_2 rfl rfl ?_
    refine G.bipush dX8_keep_3 kb_60 ?_
    refine G.icmp_ge 26 dX8_keep_5 rfl (fun c => ?_) (fun c => ?_)
    · replace h := (if_pos c).symm.trans h
      exact eb_mm_keep_26  h
    · replace h := (if_neg c).symm.trans h
      refine G.aload_n (i := 0) dX8_keep_8 rfl rfl ?_
      refine G.getR ck8 shM_0 4 rfl (by decide) q842 dX8_keep_9 ?_
      refine G.iload_n (i := 1) dX8_keep_12 rfl rfl ?_
      refine G.aload_n (i := 0) dX8_keep_13 rfl rfl ?_
      refine G.getR ck8 shM_0 0 rfl (by decide) q838 dX8_keep_14 ?_
      refine G.iload_n (i := 1) dX8_keep_17 rfl rfl ?_
      obtain ⟨v2, hv, h⟩ := bd h
      obtain ⟨hb, rfl⟩ := aget_some hv
      refine G.iald shM_1 hb dX8_keep_18 ?_
      obtain ⟨μ3, hv, h⟩ := bd h
      obtain ⟨hb, rfl⟩ := aput_some hv
      refine G.iast shM_4 hb dX8_keep_19 ?_
      replace h := bnd_mp h
      refine G.iinc dX8_keep_20 rfl (Nat.le_of_ble_eq_true rfl) ?_
      refine G.goto 2 dX8_keep_23 rfl ?_
      exact ih _ _ _ h
set_option maxRecDepth 100000 in
theorem e_mm_keep {μ : Mem} {res : (Int × Mem)} (h : mm_keep μ = some res) : GM shM l D ad ca YX8_keep [.inr 0] μ (some (.inl res.1)) res.2 := by
  refine GM.of (L := [some (.inr 0), none]) (by decide +kernel) rfl (Nat.le_of_ble_eq_true rfl) ?_
  rw [mm_keep] at h
  refine G.iconst dX8_keep_0 ki_0 ?_
  refine G.istore_n (i := 1) dX8_keep_1 rfl (Nat.le_of_ble_eq_true rfl) ?_
  exact eb_mm_keep_2  _ _ _ _ h
set_option maxRecDepth 100000 in
theorem eb_mm_makes_85 {x2 : Int} {o1 : Option PV} {o3 : Option PV} {o4 : Option PV} {μ : Mem} {res : (Int × Mem)} (h : mm_makes_85 x2 μ = some res) : G shM l D ad ca YX8_makes 85 [some (.inr 0), o1, some (.inl x2), o3, o4] [] μ (some (.inl res.1)) res.2 := by
  rw [mm_makes_85] at h
  refine G.iload_n (i := 2) dX8_makes_85 rfl rfl ?_
  cases h
  exact G.iret dX8_makes_86 rfl
set_option maxRecDepth 100000 in
theorem eb_mm_makes_69 {K35 : Int → Int → Int → Mem → Option (Int × Mem)} (hK35 : ∀ (x1 : Int) (x2 : Int) (x3 : Int) (o4 : Option PV) (μ : Mem) (res : (Int × Mem)), K35 x1 x2 x3 μ = some res → G shM l D ad ca YX8_makes 35 [some (.inr 0), some (.inl x1), some (.inl x2), some (.inl x3), o4] [] μ (some (.inl res.1)) res.2) {x1 : Int} {x3 : Int} {x4 : Int} {s0 : Int} {s1 : Int} {o2 : Option PV} {μ : Mem} {res : (Int × Mem)} (h : mm_makes_69 K35 x1 x3 x4 s0 s1 μ = some res) : G shM l D ad ca YX8_makes 69 [some (.inr 0), some (.inl x1), o2, some (.inl x3), some (.inl x4)] [.inl s1, .inl s0] μ (some (.inl res.1)) res.2 := by
  rw [mm_makes_69] at h
  refine G.iadd dX8_makes_69 ?_
  replace h := bnd_mp h
  refine G.istore_n (i := 2) dX8_makes_70 rfl (Nat.le_of_ble_eq_true rfl) ?_
  refine G.aload_n (i := 0) dX8_makes_71 rfl rfl ?_
  refine G.getR ck8 shM_0 13 rfl (by decide) q851 dX8_makes_72 ?_
  refine G.iload dX8_makes_75 rfl ?_
  refine G.iconst dX8_makes_77 ki_1 ?_
  obtain ⟨μ8, hv, h⟩ := bd h
  obtain ⟨hb, rfl⟩ := aput_some hv
  refine G.zast shM_9 hb dX8_makes_78 ?_
  replace h := bnd_mp h
  refine G.iinc dX8_makes_79 rfl (Nat.le_of_ble_eq_true rfl) ?_
  refine G.goto 35 dX8_makes_82 rfl ?_
  exact hK35 _ _ _ _ _ _ h
set_option maxRecDepth 100000 in
theorem eb_mm_makes_35 : ∀ (n : Nat) (x1 : Int) (x2 : Int) (x3 : Int) (o4 : Option PV) (μ : Mem) (res : (Int × Mem)), mm_makes_35 n x1 x2 x3 μ = some res → G shM l D ad ca YX8_makes 35 [some (.inr 0), some (.inl x1), some (.inl x2), some (.inl x3), o4] [] μ (some (.inl res.1)) res.2 := by
  intro n
  induction n with
  | zero =>
    intro x1 x2 x3 o4 μ res h
    rw [mm_makes_35] at h
    cases h
  | succ n ih =>
    intro x1 x2 x3 o4 μ res h
    rw [mm_makes_35] at h
    refine G.iload_n (i := 3) dX8_makes_35 rfl rfl ?_
    refine G.iload_n (i := 1) dX8_makes_36 rfl rfl ?_
    refine G.icmp_ge 85 dX8_makes_37 rfl (fun c => ?_) (fun c => ?_)
    · replace h := (if_pos c).symm.trans h
      exact eb_mm_makes_85  h
    · replace h := (if_neg c).symm.trans h
      refine G.aload_n (i := 0) dX8_makes_40 rfl rfl ?_
      refine G.getR ck8 shM_0 11 rfl (by decide) q849 dX8_makes_41 ?_
      refine G.aload_n (i := 0) dX8_makes_44 rfl rfl ?_
      refine G.getR ck8 shM_0 18 rfl (by decide) q856 dX8_makes_45 ?_
      refine G.iload_n (i := 3) dX8_makes_48 rfl rfl ?_
      obtain ⟨v4, hv, h⟩ := bd h
      obtain ⟨hb, rfl⟩ := aget_some hv
      refine G.iald shM_10 hb dX8_makes_49 ?_
      obtain ⟨v5, hv, h⟩ := bd h
      obtain ⟨hb, rfl⟩ := aget_some hv
      refine G.iald shM_7 hb dX8_makes_50 ?_
      refine G.istore dX8_makes_51 (Nat.le_of_ble_eq_true rfl) ?_
      refine G.iload_n (i := 2) dX8_makes_53 rfl rfl ?_
      refine G.aload_n (i := 0) dX8_makes_54 rfl rfl ?_
      refine G.getR ck8 shM_0 13 rfl (by decide) q851 dX8_makes_55 ?_
      refine G.iload dX8_makes_58 rfl ?_
      obtain ⟨v6, hv, h⟩ := bd h
      obtain ⟨hb, rfl⟩ := aget_some hv
      refine G.zald shM_9 hb dX8_makes_60 ?_
      refine G.if_eq 68 dX8_makes_61 rfl (fun c => ?_) (fun c => ?_)
      · replace h := (if_pos c).symm.trans h
        refine G.iconst dX8_makes_68 ki_1 ?_
        exact eb_mm_makes_69 ih h
      · replace h := (if_neg c).symm.trans h
        refine G.iconst dX8_makes_64 ki_0 ?_
        refine G.goto 69 dX8_makes_65 rfl ?_
        exact eb_mm_makes_69 ih h
set_option maxRecDepth 100000 in
theorem eb_mm_makes_31 {x1 : Int} {o2 : Option PV} {o3 : Option PV} {o4 : Option PV} {μ : Mem} {res : (Int × Mem)} (h : mm_makes_31 x1 μ = some res) : G shM l D ad ca YX8_makes 31 [some (.inr 0), some (.inl x1), o2, o3, o4] [] μ (some (.inl res.1)) res.2 := by
  rw [mm_makes_31] at h
  refine G.iconst dX8_makes_31 ki_0 ?_
  refine G.istore_n (i := 2) dX8_makes_32 rfl (Nat.le_of_ble_eq_true rfl) ?_
  refine G.iconst dX8_makes_33 ki_0 ?_
  refine G.istore_n (i := 3) dX8_makes_34 rfl (Nat.le_of_ble_eq_true rfl) ?_
  exact eb_mm_makes_35  _ _ _ _ _ _ _ h
set_option maxRecDepth 100000 in
theorem eb_mm_makes_11 : ∀ (n : Nat) (x1 : Int) (x2 : Int) (o3 : Option PV) (o4 : Option PV) (μ : Mem) (res : (Int × Mem)), mm_makes_11 n x1 x2 μ = some res → G shM l D ad ca YX8_makes 11 [some (.inr 0), some (.inl x1), some (.inl x2), o3, o4] [] μ (some (.inl res.1)) res.2 := by
  intro n
  induction n with
  | zero =>
    intro x1 x2 o3 o4 μ res h
    rw [mm_makes_11] at h
    cases h
  | succ n ih =>
    intro x1 x2 o3 o4 μ res h
    rw [mm_makes_11] at h
    refine G.iload_n (i := 2) dX8_makes_11 rfl rfl ?_
    refine G.sipush dX8_makes_12 ks_6561 ?_
    refine G.icmp_ge 31 dX8_makes_15 rfl (fun c => ?_) (fun c => ?_)
    · replace h := (if_pos c).symm.trans h
      exact eb_mm_makes_31  h
    · replace h := (if_neg c).symm.trans h
      refine G.aload_n (i := 0) dX8_makes_18 rfl rfl ?_
      refine G.getR ck8 shM_0 13 rfl (by decide) q851 dX8_makes_19 ?_
      refine G.iload_n (i := 2) dX8_makes_22 rfl rfl ?_
      refine G.iconst dX8_makes_23 ki_0 ?_
      obtain ⟨μ10, hv, h⟩ := bd h
      obtain ⟨hb, rfl⟩ := aput_some hv
      refine G.zast shM_9 hb dX8_makes_24 ?_
      replace h := bnd_mp h
      refine G.iinc dX8_makes_25 rfl (Nat.le_of_ble_eq_true rfl) ?_
      refine G.goto 11 dX8_makes_28 rfl ?_
      exact ih _ _ _ _ _ _ h
set_option maxRecDepth 100000 in
theorem e_mm_makes {μ : Mem} {res : (Int × Mem)} (h : mm_makes μ = some res) : GM shM l D ad ca YX8_makes [.inr 0] μ (some (.inl res.1)) res.2 := by
  refine GM.of (L := [some (.inr 0), none, none, none, none]) (by decide +kernel) rfl (Nat.le_of_ble_eq_true rfl) ?_
  rw [mm_makes] at h
  refine G.aload_n (i := 0) dX8_makes_0 rfl rfl ?_
  obtain ⟨μ1, hv, h⟩ := bd h
  refine G.callV (e_mm_lay hv) cs_X8_makes_X8_lay ck8 shM_0 rfl rfl (Nat.le_of_ble_eq_true rfl) q977 q979 q41 dX8_makes_1 ?_
  refine G.aload_n (i := 0) dX8_makes_4 rfl rfl ?_
  obtain ⟨p2, hv, h⟩ := bd h
  refine G.callV (e_mm_laySums hv) cs_X8_makes_X8_laySums ck8 shM_0 rfl rfl (Nat.le_of_ble_eq_true rfl) q1144 q1146 q60 dX8_makes_5 ?_
  replace h := bnd_mp h
  refine G.istore_n (i := 1) dX8_makes_8 rfl (Nat.le_of_ble_eq_true rfl) ?_
  refine G.iconst dX8_makes_9 ki_0 ?_
  refine G.istore_n (i := 2) dX8_makes_10 rfl (Nat.le_of_ble_eq_true rfl) ?_
  exact eb_mm_makes_11  _ _ _ _ _ _ _ h
set_option maxRecDepth 100000 in
theorem eb_mm_jarsLike_46 {x2 : Int} {o1 : Option PV} {o3 : Option PV} {μ : Mem} {res : (Int × Mem)} (h : mm_jarsLike_46 x2 μ = some res) : G shM l D ad ca YX8_jarsLike 46 [some (.inr 0), o1, some (.inl x2), o3] [] μ (some (.inl res.1)) res.2 := by
  rw [mm_jarsLike_46] at h
  refine G.iload_n (i := 2) dX8_jarsLike_46 rfl rfl ?_
  cases h
  exact G.iret dX8_jarsLike_47 rfl
set_option maxRecDepth 100000 in
theorem eb_mm_jarsLike_38 {K4 : Int → Int → Int → Mem → Option (Int × Mem)} (hK4 : ∀ (x1 : Int) (x2 : Int) (x3 : Int) (μ : Mem) (res : (Int × Mem)), K4 x1 x2 x3 μ = some res → G shM l D ad ca YX8_jarsLike 4 [some (.inr 0), some (.inl x1), some (.inl x2), some (.inl x3)] [] μ (some (.inl res.1)) res.2) {x1 : Int} {x3 : Int} {s0 : Int} {s1 : Int} {o2 : Option PV} {μ : Mem} {res : (Int × Mem)} (h : mm_jarsLike_38 K4 x1 x3 s0 s1 μ = some res) : G shM l D ad ca YX8_jarsLike 38 [some (.inr 0), some (.inl x1), o2, some (.inl x3)] [.inl s1, .inl s0] μ (some (.inl res.1)) res.2 := by
  rw [mm_jarsLike_38] at h
  refine G.iadd dX8_jarsLike_38 ?_
  replace h := bnd_mp h
  refine G.istore_n (i := 2) dX8_jarsLike_39 rfl (Nat.le_of_ble_eq_true rfl) ?_
  replace h := bnd_mp h
  refine G.iinc dX8_jarsLike_40 rfl (Nat.le_of_ble_eq_true rfl) ?_
  refine G.goto 4 dX8_jarsLike_43 rfl ?_
  exact hK4 _ _ _ _ _ h
set_option maxRecDepth 100000 in
theorem eb_mm_jarsLike_4 : ∀ (n : Nat) (x1 : Int) (x2 : Int) (x3 : Int) (μ : Mem) (res : (Int × Mem)), mm_jarsLike_4 n x1 x2 x3 μ = some res → G shM l D ad ca YX8_jarsLike 4 [some (.inr 0), some (.inl x1), some (.inl x2), some (.inl x3)] [] μ (some (.inl res.1)) res.2 := by
  intro n
  induction n with
  | zero =>
    intro x1 x2 x3 μ res h
    rw [mm_jarsLike_4] at h
    cases h
  | succ n ih =>
    intro x1 x2 x3 μ res h
    rw [mm_jarsLike_4] at h
    refine G.iload_n (i := 3) dX8_jarsLike_4 rfl rfl ?_
    refine G.aload_n (i := 0) dX8_jarsLike_5 rfl rfl ?_
    refine G.getR ck8 shM_0 0 rfl (by decide) q838 dX8_jarsLike_6 ?_
    refine G.bipush dX8_jarsLike_9 kb_8 ?_
    refine G.ialdc 8 shM_1 rfl (by decide) dX8_jarsLike_11 ?_
    refine G.icmp_ge 46 dX8_jarsLike_12 rfl (fun c => ?_) (fun c => ?_)
    · replace h := (if_pos c).symm.trans h
      exact eb_mm_jarsLike_46  h
    · replace h := (if_neg c).symm.trans h
      refine G.iload_n (i := 2) dX8_jarsLike_15 rfl rfl ?_
      refine G.aload_n (i := 0) dX8_jarsLike_16 rfl rfl ?_
      refine G.aload_n (i := 0) dX8_jarsLike_17 rfl rfl ?_
      refine G.iload_n (i := 3) dX8_jarsLike_18 rfl rfl ?_
      obtain ⟨v1, hv, h⟩ := bd h
      refine G.callV (e_mm_mixIn hv) cs_X8_jarsLike_X8_mixIn ck8 shM_0 rfl rfl (Nat.le_of_ble_eq_true rfl) q942 q944 q36 dX8_jarsLike_19 ?_
      obtain ⟨p2, hv, h⟩ := bd h
      refine G.callV (e_mm_taste hv) cs_X8_jarsLike_X8_taste ck8 shM_0 rfl rfl (Nat.le_of_ble_eq_true rfl) q1013 q1015 q46 dX8_jarsLike_22 ?_
      refine G.aload_n (i := 0) dX8_jarsLike_25 rfl rfl ?_
      refine G.iload_n (i := 1) dX8_jarsLike_26 rfl rfl ?_
      obtain ⟨p3, hv, h⟩ := bd h
      refine G.callV (e_mm_taste hv) cs_X8_jarsLike_X8_taste ck8 shM_0 rfl rfl (Nat.le_of_ble_eq_true rfl) q1013 q1015 q46 dX8_jarsLike_27 ?_
      refine G.icmp_ne 37 dX8_jarsLike_30 rfl (fun c => ?_) (fun c => ?_)
      · replace h := (if_neg c).symm.trans h
        refine G.iconst dX8_jarsLike_37 ki_0 ?_
        exact eb_mm_jarsLike_38 ih h
      · replace h := (if_pos c).symm.trans h
        refine G.iconst dX8_jarsLike_33 ki_1 ?_
        refine G.goto 38 dX8_jarsLike_34 rfl ?_
        exact eb_mm_jarsLike_38 ih h
set_option maxRecDepth 100000 in
theorem e_mm_jarsLike {a1 : Int} {μ : Mem} {res : (Int × Mem)} (h : mm_jarsLike a1 μ = some res) : GM shM l D ad ca YX8_jarsLike [.inr 0, .inl a1] μ (some (.inl res.1)) res.2 := by
  refine GM.of (L := [some (.inr 0), some (.inl a1), none, none]) (by decide +kernel) rfl (Nat.le_of_ble_eq_true rfl) ?_
  rw [mm_jarsLike] at h
  refine G.iconst dX8_jarsLike_0 ki_0 ?_
  refine G.istore_n (i := 2) dX8_jarsLike_1 rfl (Nat.le_of_ble_eq_true rfl) ?_
  refine G.iconst dX8_jarsLike_2 ki_0 ?_
  refine G.istore_n (i := 3) dX8_jarsLike_3 rfl (Nat.le_of_ble_eq_true rfl) ?_
  exact eb_mm_jarsLike_4  _ _ _ _ _ _ h
set_option maxRecDepth 100000 in
theorem eb_mm_mixOf_17 {o1 : Option PV} {o2 : Option PV} {μ : Mem} {res : (Int × Mem)} (h : mm_mixOf_17 μ = some res) : G shM l D ad ca YX8_mixOf 17 [some (.inr 0), o1, o2] [] μ (some (.inl res.1)) res.2 := by
  rw [mm_mixOf_17] at h
  refine G.bipush dX8_mixOf_17 kb_m2 ?_
  cases h
  exact G.iret dX8_mixOf_19 rfl
set_option maxRecDepth 100000 in
theorem eb_mm_mixOf_53 {s0 : Int} {o1 : Option PV} {o2 : Option PV} {μ : Mem} {res : (Int × Mem)} (h : mm_mixOf_53 s0 μ = some res) : G shM l D ad ca YX8_mixOf 53 [some (.inr 0), o1, o2] [.inl s0] μ (some (.inl res.1)) res.2 := by
  rw [mm_mixOf_53] at h
  cases h
  exact G.iret dX8_mixOf_53 rfl
set_option maxRecDepth 100000 in
theorem e_mm_mixOf {a1 : Int} {a2 : Int} {μ : Mem} {res : (Int × Mem)} (h : mm_mixOf a1 a2 μ = some res) : GM shM l D ad ca YX8_mixOf [.inr 0, .inl a1, .inl a2] μ (some (.inl res.1)) res.2 := by
  refine GM.of (L := [some (.inr 0), some (.inl a1), some (.inl a2)]) (by decide +kernel) rfl (Nat.le_of_ble_eq_true rfl) ?_
  rw [mm_mixOf] at h
  refine G.iload_n (i := 1) dX8_mixOf_0 rfl rfl ?_
  obtain ⟨v1, hv, h⟩ := bd h
  refine G.callS (e_mm_isMix hv) cs_X8_mixOf_X8_isMix rfl (Nat.le_of_ble_eq_true rfl) q901 q902 dX8_mixOf_1 ?_
  refine G.if_eq 17 dX8_mixOf_4 rfl (fun c => ?_) (fun c => ?_)
  · replace h := (if_pos c).symm.trans h
    exact eb_mm_mixOf_17  h
  · replace h := (if_neg c).symm.trans h
    refine G.iload_n (i := 2) dX8_mixOf_7 rfl rfl ?_
    refine G.iconst dX8_mixOf_8 ki_0 ?_
    refine G.bipush dX8_mixOf_9 kb_6 ?_
    obtain ⟨v2, hv, h⟩ := bd h
    refine G.callS (e_mm_in hv) cs_X8_mixOf_X8_in rfl (Nat.le_of_ble_eq_true rfl) q904 q905 dX8_mixOf_11 ?_
    refine G.if_ne 20 dX8_mixOf_14 rfl (fun c => ?_) (fun c => ?_)
    · replace h := (if_neg c).symm.trans h
      refine G.iload_n (i := 2) dX8_mixOf_20 rfl rfl ?_
      refine G.iconst dX8_mixOf_21 ki_5 ?_
      refine G.icmp_ne 33 dX8_mixOf_22 rfl (fun c => ?_) (fun c => ?_)
      · replace h := (if_neg c).symm.trans h
        refine G.iload_n (i := 2) dX8_mixOf_33 rfl rfl ?_
        refine G.bipush dX8_mixOf_34 kb_6 ?_
        refine G.icmp_ne 47 dX8_mixOf_36 rfl (fun c => ?_) (fun c => ?_)
        · replace h := (if_neg c).symm.trans h
          refine G.aload_n (i := 0) dX8_mixOf_47 rfl rfl ?_
          refine G.iload_n (i := 1) dX8_mixOf_48 rfl rfl ?_
          refine G.iload_n (i := 2) dX8_mixOf_49 rfl rfl ?_
          obtain ⟨p3, hv, h⟩ := bd h
          refine G.callV (e_mm_told hv) cs_X8_mixOf_X8_told ck8 shM_0 rfl rfl (Nat.le_of_ble_eq_true rfl) q1084 q1086 q55 dX8_mixOf_50 ?_
          exact eb_mm_mixOf_53  h
        · replace h := (if_pos c).symm.trans h
          refine G.aload_n (i := 0) dX8_mixOf_39 rfl rfl ?_
          refine G.iload_n (i := 1) dX8_mixOf_40 rfl rfl ?_
          obtain ⟨p4, hv, h⟩ := bd h
          refine G.callV (e_mm_jarsLike hv) cs_X8_mixOf_X8_jarsLike ck8 shM_0 rfl rfl (Nat.le_of_ble_eq_true rfl) q1100 q1102 q56 dX8_mixOf_41 ?_
          refine G.goto 53 dX8_mixOf_44 rfl ?_
          exact eb_mm_mixOf_53  h
      · replace h := (if_pos c).symm.trans h
        refine G.iload_n (i := 1) dX8_mixOf_25 rfl rfl ?_
        refine G.iload_n (i := 1) dX8_mixOf_26 rfl rfl ?_
        obtain ⟨v5, hv, h⟩ := bd h
        refine G.callS (e_mm_mixed hv) cs_X8_mixOf_X8_mixed rfl (Nat.le_of_ble_eq_true rfl) q946 q947 dX8_mixOf_27 ?_
        refine G.goto 53 dX8_mixOf_30 rfl ?_
        exact eb_mm_mixOf_53  h
    · replace h := (if_pos c).symm.trans h
      exact eb_mm_mixOf_17  h
set_option maxRecDepth 100000 in
theorem e_mm_more {a1 : Int} {μ : Mem} {res : (Int × Mem)} (h : mm_more a1 μ = some res) : GM shM l D ad ca YX8_more [.inr 0, .inl a1] μ (some (.inl res.1)) res.2 := by
  refine GM.of (L := [some (.inr 0), some (.inl a1)]) (by decide +kernel) rfl (Nat.le_of_ble_eq_true rfl) ?_
  rw [mm_more] at h
  refine G.aload_n (i := 0) dX8_more_0 rfl rfl ?_
  obtain ⟨μ1, hv, h⟩ := bd h
  refine G.callV (e_mm_putAside hv) cs_X8_more_X8_putAside ck8 shM_0 rfl rfl (Nat.le_of_ble_eq_true rfl) q907 q909 q29 dX8_more_1 ?_
  refine G.aload_n (i := 0) dX8_more_4 rfl rfl ?_
  refine G.aload_n (i := 0) dX8_more_5 rfl rfl ?_
  refine G.iload_n (i := 1) dX8_more_6 rfl rfl ?_
  obtain ⟨p2, hv, h⟩ := bd h
  refine G.callV (e_mm_buysMore hv) cs_X8_more_X8_buysMore ck8 shM_0 rfl rfl (Nat.le_of_ble_eq_true rfl) q953 q955 q37 dX8_more_7 ?_
  obtain ⟨p3, hv, h⟩ := bd h
  refine G.callV (e_mm_act hv) cs_X8_more_X8_act ck8 shM_0 rfl rfl (Nat.le_of_ble_eq_true rfl) q922 q924 q32 dX8_more_10 ?_
  cases h
  exact G.iret dX8_more_13 rfl
set_option maxRecDepth 100000 in
theorem eb_mm_needless_49 {x2 : Int} {o1 : Option PV} {o3 : Option PV} {μ : Mem} {res : (Int × Mem)} (h : mm_needless_49 x2 μ = some res) : G shM l D ad ca YX8_needless 49 [some (.inr 0), o1, some (.inl x2), o3] [] μ (some (.inl res.1)) res.2 := by
  rw [mm_needless_49] at h
  refine G.aload_n (i := 0) dX8_needless_49 rfl rfl ?_
  refine G.iconst dX8_needless_50 ki_0 ?_
  replace h := bnd_mp h
  refine G.putI ck8 shM_0 8 rfl (by decide) q846 rfl rfl rfl dX8_needless_51 ?_
  refine G.iload_n (i := 2) dX8_needless_54 rfl rfl ?_
  cases h
  exact G.iret dX8_needless_55 rfl
set_option maxRecDepth 100000 in
theorem eb_mm_needless_42 {K10 : Int → Int → Int → Mem → Option (Int × Mem)} (hK10 : ∀ (x1 : Int) (x2 : Int) (x3 : Int) (μ : Mem) (res : (Int × Mem)), K10 x1 x2 x3 μ = some res → G shM l D ad ca YX8_needless 10 [some (.inr 0), some (.inl x1), some (.inl x2), some (.inl x3)] [] μ (some (.inl res.1)) res.2) {x1 : Int} {x3 : Int} {s0 : Int} {o2 : Option PV} {μ : Mem} {res : (Int × Mem)} (h : mm_needless_42 K10 x1 x3 s0 μ = some res) : G shM l D ad ca YX8_needless 42 [some (.inr 0), some (.inl x1), o2, some (.inl x3)] [.inl s0] μ (some (.inl res.1)) res.2 := by
  rw [mm_needless_42] at h
  refine G.istore_n (i := 2) dX8_needless_42 rfl (Nat.le_of_ble_eq_true rfl) ?_
  replace h := bnd_mp h
  refine G.iinc dX8_needless_43 rfl (Nat.le_of_ble_eq_true rfl) ?_
  refine G.goto 10 dX8_needless_46 rfl ?_
  exact hK10 _ _ _ _ _ h
set_option maxRecDepth 100000 in
theorem eb_mm_needless_10 : ∀ (n : Nat) (x1 : Int) (x2 : Int) (x3 : Int) (μ : Mem) (res : (Int × Mem)), mm_needless_10 n x1 x2 x3 μ = some res → G shM l D ad ca YX8_needless 10 [some (.inr 0), some (.inl x1), some (.inl x2), some (.inl x3)] [] μ (some (.inl res.1)) res.2 := by
  intro n
  induction n with
  | zero =>
    intro x1 x2 x3 μ res h
    rw [mm_needless_10] at h
    cases h
  | succ n ih =>
    intro x1 x2 x3 μ res h
    rw [mm_needless_10] at h
    refine G.iload_n (i := 3) dX8_needless_10 rfl rfl ?_
    refine G.aload_n (i := 0) dX8_needless_11 rfl rfl ?_
    refine G.getR ck8 shM_0 0 rfl (by decide) q838 dX8_needless_12 ?_
    refine G.bipush dX8_needless_15 kb_34 ?_
    refine G.ialdc 34 shM_1 rfl (by decide) dX8_needless_17 ?_
    refine G.icmp_ge 49 dX8_needless_18 rfl (fun c => ?_) (fun c => ?_)
    · replace h := (if_pos c).symm.trans h
      exact eb_mm_needless_49  h
    · replace h := (if_neg c).symm.trans h
      refine G.iload_n (i := 2) dX8_needless_21 rfl rfl ?_
      refine G.bipush dX8_needless_22 kb_m5 ?_
      refine G.icmp_ne 49 dX8_needless_24 rfl (fun c => ?_) (fun c => ?_)
      · replace h := (if_neg c).symm.trans h
        exact eb_mm_needless_49  h
      · replace h := (if_pos c).symm.trans h
        refine G.aload_n (i := 0) dX8_needless_27 rfl rfl ?_
        refine G.iload_n (i := 3) dX8_needless_28 rfl rfl ?_
        obtain ⟨p4, hv, h⟩ := bd h
        refine G.callV (e_mm_layBland hv) cs_X8_needless_X8_layBland ck8 shM_0 rfl rfl (Nat.le_of_ble_eq_true rfl) q981 q983 q42 dX8_needless_29 ?_
        refine G.iload_n (i := 1) dX8_needless_32 rfl rfl ?_
        refine G.icmp_ne 40 dX8_needless_33 rfl (fun c => ?_) (fun c => ?_)
        · replace h := (if_neg c).symm.trans h
          refine G.bipush dX8_needless_40 kb_m5 ?_
          exact eb_mm_needless_42 ih h
        · replace h := (if_pos c).symm.trans h
          refine G.iload_n (i := 3) dX8_needless_36 rfl rfl ?_
          refine G.goto 42 dX8_needless_37 rfl ?_
          exact eb_mm_needless_42 ih h
set_option maxRecDepth 100000 in
theorem e_mm_needless {μ : Mem} {res : (Int × Mem)} (h : mm_needless μ = some res) : GM shM l D ad ca YX8_needless [.inr 0] μ (some (.inl res.1)) res.2 := by
  refine GM.of (L := [some (.inr 0), none, none, none]) (by decide +kernel) rfl (Nat.le_of_ble_eq_true rfl) ?_
  rw [mm_needless] at h
  refine G.aload_n (i := 0) dX8_needless_0 rfl rfl ?_
  obtain ⟨p1, hv, h⟩ := bd h
  refine G.callV (e_mm_strength hv) cs_X8_needless_X8_strength ck8 shM_0 rfl rfl (Nat.le_of_ble_eq_true rfl) q973 q975 q40 dX8_needless_1 ?_
  replace h := bnd_mp h
  refine G.istore_n (i := 1) dX8_needless_4 rfl (Nat.le_of_ble_eq_true rfl) ?_
  refine G.bipush dX8_needless_5 kb_m5 ?_
  refine G.istore_n (i := 2) dX8_needless_7 rfl (Nat.le_of_ble_eq_true rfl) ?_
  refine G.iconst dX8_needless_8 ki_0 ?_
  refine G.istore_n (i := 3) dX8_needless_9 rfl (Nat.le_of_ble_eq_true rfl) ?_
  exact eb_mm_needless_10  _ _ _ _ _ _ h
set_option maxRecDepth 100000 in
theorem e_mm_pour {a1 : Int} {a2 : Int} {μ : Mem} {res : (Int × Mem)} (h : mm_pour a1 a2 μ = some res) : GM shM l D ad ca YX8_pour [.inr 0, .inl a1, .inl a2] μ (some (.inl res.1)) res.2 := by
  refine GM.of (L := [some (.inr 0), some (.inl a1), some (.inl a2)]) (by decide +kernel) rfl (Nat.le_of_ble_eq_true rfl) ?_
  rw [mm_pour] at h
  refine G.aload_n (i := 0) dX8_pour_0 rfl rfl ?_
  obtain ⟨μ1, hv, h⟩ := bd h
  refine G.callV (e_mm_putAside hv) cs_X8_pour_X8_putAside ck8 shM_0 rfl rfl (Nat.le_of_ble_eq_true rfl) q907 q909 q29 dX8_pour_1 ?_
  refine G.aload_n (i := 0) dX8_pour_4 rfl rfl ?_
  refine G.aload_n (i := 0) dX8_pour_5 rfl rfl ?_
  refine G.iload_n (i := 1) dX8_pour_6 rfl rfl ?_
  refine G.iload_n (i := 2) dX8_pour_7 rfl rfl ?_
  obtain ⟨p2, hv, h⟩ := bd h
  refine G.callV (e_mm_pours hv) cs_X8_pour_X8_pours ck8 shM_0 rfl rfl (Nat.le_of_ble_eq_true rfl) q930 q932 q33 dX8_pour_8 ?_
  obtain ⟨p3, hv, h⟩ := bd h
  refine G.callV (e_mm_act hv) cs_X8_pour_X8_act ck8 shM_0 rfl rfl (Nat.le_of_ble_eq_true rfl) q922 q924 q32 dX8_pour_11 ?_
  cases h
  exact G.iret dX8_pour_14 rfl
set_option maxRecDepth 100000 in
theorem e_mm_price {a1 : Int} {a2 : Int} {μ : Mem} {res : (Int × Mem)} (h : mm_price a1 a2 μ = some res) : GM shM l D ad ca YX8_price [.inr 0, .inl a1, .inl a2] μ (some (.inl res.1)) res.2 := by
  refine GM.of (L := [some (.inr 0), some (.inl a1), some (.inl a2), none]) (by decide +kernel) rfl (Nat.le_of_ble_eq_true rfl) ?_
  rw [mm_price] at h
  refine G.iload_n (i := 1) dX8_price_0 rfl rfl ?_
  refine G.iconst dX8_price_1 ki_0 ?_
  refine G.bipush dX8_price_2 kb_7 ?_
  obtain ⟨v1, hv, h⟩ := bd h
  refine G.callS (e_mm_in hv) cs_X8_price_X8_in rfl (Nat.le_of_ble_eq_true rfl) q904 q905 dX8_price_4 ?_
  refine G.if_ne 12 dX8_price_7 rfl (fun c => ?_) (fun c => ?_)
  · replace h := (if_neg c).symm.trans h
    refine G.iload_n (i := 2) dX8_price_12 rfl rfl ?_
    refine G.iconst dX8_price_13 ki_0 ?_
    refine G.bipush dX8_price_14 kb_99 ?_
    obtain ⟨v2, hv, h⟩ := bd h
    refine G.callS (e_mm_in hv) cs_X8_price_X8_in rfl (Nat.le_of_ble_eq_true rfl) q904 q905 dX8_price_16 ?_
    refine G.if_ne 25 dX8_price_19 rfl (fun c => ?_) (fun c => ?_)
    · replace h := (if_neg c).symm.trans h
      refine G.aload_n (i := 0) dX8_price_25 rfl rfl ?_
      refine G.getR ck8 shM_0 0 rfl (by decide) q838 dX8_price_26 ?_
      refine G.iload_n (i := 1) dX8_price_29 rfl rfl ?_
      obtain ⟨v3, hv, h⟩ := bd h
      obtain ⟨hb, rfl⟩ := aget_some hv
      refine G.iald shM_1 hb dX8_price_30 ?_
      refine G.istore_n (i := 3) dX8_price_31 rfl (Nat.le_of_ble_eq_true rfl) ?_
      refine G.iload_n (i := 3) dX8_price_32 rfl rfl ?_
      refine G.iload_n (i := 2) dX8_price_33 rfl rfl ?_
      refine G.icmp_ne 40 dX8_price_34 rfl (fun c => ?_) (fun c => ?_)
      · replace h := (if_neg c).symm.trans h
        refine G.aload_n (i := 0) dX8_price_40 rfl rfl ?_
        obtain ⟨μ4, hv, h⟩ := bd h
        refine G.callV (e_mm_putAside hv) cs_X8_price_X8_putAside ck8 shM_0 rfl rfl (Nat.le_of_ble_eq_true rfl) q907 q909 q29 dX8_price_41 ?_
        refine G.aload_n (i := 0) dX8_price_44 rfl rfl ?_
        refine G.getR ck8 shM_0 0 rfl (by decide) q838 dX8_price_45 ?_
        refine G.iload_n (i := 1) dX8_price_48 rfl rfl ?_
        refine G.iload_n (i := 2) dX8_price_49 rfl rfl ?_
        obtain ⟨μ5, hv, h⟩ := bd h
        obtain ⟨hb, rfl⟩ := aput_some hv
        refine G.iast shM_1 hb dX8_price_50 ?_
        refine G.aload_n (i := 0) dX8_price_51 rfl rfl ?_
        refine G.iload_n (i := 3) dX8_price_52 rfl rfl ?_
        obtain ⟨p6, hv, h⟩ := bd h
        refine G.callV (e_mm_act hv) cs_X8_price_X8_act ck8 shM_0 rfl rfl (Nat.le_of_ble_eq_true rfl) q922 q924 q32 dX8_price_53 ?_
        cases h
        exact G.iret dX8_price_56 rfl
      · replace h := (if_pos c).symm.trans h
        refine G.bipush dX8_price_37 kb_m5 ?_
        cases h
        exact G.iret dX8_price_39 rfl
    · replace h := (if_pos c).symm.trans h
      refine G.bipush dX8_price_22 kb_m2 ?_
      cases h
      exact G.iret dX8_price_24 rfl
  · replace h := (if_pos c).symm.trans h
    refine G.iconst dX8_price_10 ki_m1 ?_
    cases h
    exact G.iret dX8_price_11 rfl
set_option maxRecDepth 100000 in
theorem eb_mm_ranked_30 {s0 : Int} {o1 : Option PV} {μ : Mem} {res : Int} (h : mm_ranked_30 s0 μ = some res) : G shM l D ad ca YX8_ranked 30 [some (.inr 0), o1] [.inl s0] μ (some (.inl res)) μ := by
  rw [mm_ranked_30] at h
  cases h
  exact G.iret dX8_ranked_30 rfl
set_option maxRecDepth 100000 in
theorem e_mm_ranked {a1 : Int} {μ : Mem} {res : Int} (h : mm_ranked a1 μ = some res) : GM shM l D ad ca YX8_ranked [.inr 0, .inl a1] μ (some (.inl res)) μ := by
  refine GM.of (L := [some (.inr 0), some (.inl a1)]) (by decide +kernel) rfl (Nat.le_of_ble_eq_true rfl) ?_
  rw [mm_ranked] at h
  refine G.iload_n (i := 1) dX8_ranked_0 rfl rfl ?_
  refine G.if_ge 9 dX8_ranked_1 rfl (fun c => ?_) (fun c => ?_)
  · replace h := (if_pos c).symm.trans h
    refine G.iload_n (i := 1) dX8_ranked_9 rfl rfl ?_
    refine G.aload_n (i := 0) dX8_ranked_10 rfl rfl ?_
    refine G.getR ck8 shM_0 0 rfl (by decide) q838 dX8_ranked_11 ?_
    refine G.bipush dX8_ranked_14 kb_8 ?_
    refine G.ialdc 8 shM_1 rfl (by decide) dX8_ranked_16 ?_
    refine G.icmp_ge 28 dX8_ranked_17 rfl (fun c => ?_) (fun c => ?_)
    · replace h := (if_pos c).symm.trans h
      refine G.bipush dX8_ranked_28 kb_m5 ?_
      exact eb_mm_ranked_30  h
    · replace h := (if_neg c).symm.trans h
      refine G.aload_n (i := 0) dX8_ranked_20 rfl rfl ?_
      refine G.iload_n (i := 1) dX8_ranked_21 rfl rfl ?_
      obtain ⟨v1, hv, h⟩ := bd h
      refine G.callV (e_mm_numberOf hv) cs_X8_ranked_X8_numberOf ck8 shM_0 rfl rfl (Nat.le_of_ble_eq_true rfl) q938 q940 q35 dX8_ranked_22 ?_
      refine G.goto 30 dX8_ranked_25 rfl ?_
      exact eb_mm_ranked_30  h
  · replace h := (if_neg c).symm.trans h
    refine G.bipush dX8_ranked_4 kb_m2 ?_
    refine G.goto 30 dX8_ranked_6 rfl ?_
    exact eb_mm_ranked_30  h
set_option maxRecDepth 100000 in
theorem eb_mm_restore_40 {o1 : Option PV} {μ : Mem} {res : (Int × Mem)} (h : mm_restore_40 μ = some res) : G shM l D ad ca YX8_restore 40 [some (.inr 0), o1] [] μ (some (.inl res.1)) res.2 := by
  rw [mm_restore_40] at h
  refine G.aload_n (i := 0) dX8_restore_40 rfl rfl ?_
  refine G.aload_n (i := 0) dX8_restore_41 rfl rfl ?_
  refine G.getR ck8 shM_0 0 rfl (by decide) q838 dX8_restore_42 ?_
  refine G.bipush dX8_restore_45 kb_8 ?_
  refine G.ialdc 8 shM_1 rfl (by decide) dX8_restore_47 ?_
  obtain ⟨p2, hv, h⟩ := bd h
  refine G.callV (e_mm_act hv) cs_X8_restore_X8_act ck8 shM_0 rfl rfl (Nat.le_of_ble_eq_true rfl) q922 q924 q32 dX8_restore_48 ?_
  cases h
  exact G.iret dX8_restore_51 rfl
set_option maxRecDepth 100000 in
theorem eb_mm_restore_16 : ∀ (n : Nat) (x1 : Int) (μ : Mem) (res : (Int × Mem)), mm_restore_16 n x1 μ = some res → G shM l D ad ca YX8_restore 16 [some (.inr 0), some (.inl x1)] [] μ (some (.inl res.1)) res.2 := by
  intro n
  induction n with
  | zero =>
    intro x1 μ res h
    rw [mm_restore_16] at h
    cases h
  | succ n ih =>
    intro x1 μ res h
    rw [mm_restore_16] at h
    refine G.iload_n (i := 1) dX8_restore_16 rfl rfl ?_
    refine G.bipush dX8_restore_17 kb_60 ?_
    refine G.icmp_ge 40 dX8_restore_19 rfl (fun c => ?_) (fun c => ?_)
    · replace h := (if_pos c).symm.trans h
      exact eb_mm_restore_40  h
    · replace h := (if_neg c).symm.trans h
      refine G.aload_n (i := 0) dX8_restore_22 rfl rfl ?_
      refine G.getR ck8 shM_0 0 rfl (by decide) q838 dX8_restore_23 ?_
      refine G.iload_n (i := 1) dX8_restore_26 rfl rfl ?_
      refine G.aload_n (i := 0) dX8_restore_27 rfl rfl ?_
      refine G.getR ck8 shM_0 4 rfl (by decide) q842 dX8_restore_28 ?_
      refine G.iload_n (i := 1) dX8_restore_31 rfl rfl ?_
      obtain ⟨v3, hv, h⟩ := bd h
      obtain ⟨hb, rfl⟩ := aget_some hv
      refine G.iald shM_4 hb dX8_restore_32 ?_
      obtain ⟨μ4, hv, h⟩ := bd h
      obtain ⟨hb, rfl⟩ := aput_some hv
      refine G.iast shM_1 hb dX8_restore_33 ?_
      replace h := bnd_mp h
      refine G.iinc dX8_restore_34 rfl (Nat.le_of_ble_eq_true rfl) ?_
      refine G.goto 16 dX8_restore_37 rfl ?_
      exact ih _ _ _ h
set_option maxRecDepth 100000 in
theorem e_mm_restore {μ : Mem} {res : (Int × Mem)} (h : mm_restore μ = some res) : GM shM l D ad ca YX8_restore [.inr 0] μ (some (.inl res.1)) res.2 := by
  refine GM.of (L := [some (.inr 0), none]) (by decide +kernel) rfl (Nat.le_of_ble_eq_true rfl) ?_
  rw [mm_restore] at h
  refine G.aload_n (i := 0) dX8_restore_0 rfl rfl ?_
  refine G.getI ck8 shM_0 5 rfl (by decide) q843 dX8_restore_1 ?_
  refine G.if_ne 10 dX8_restore_4 rfl (fun c => ?_) (fun c => ?_)
  · replace h := (if_neg c).symm.trans h
    refine G.aload_n (i := 0) dX8_restore_10 rfl rfl ?_
    obtain ⟨μ1, hv, h⟩ := bd h
    refine G.callV (e_mm_putAside hv) cs_X8_restore_X8_putAside ck8 shM_0 rfl rfl (Nat.le_of_ble_eq_true rfl) q907 q909 q29 dX8_restore_11 ?_
    refine G.iconst dX8_restore_14 ki_0 ?_
    refine G.istore_n (i := 1) dX8_restore_15 rfl (Nat.le_of_ble_eq_true rfl) ?_
    exact eb_mm_restore_16  _ _ _ _ h
  · replace h := (if_pos c).symm.trans h
    refine G.bipush dX8_restore_7 kb_m5 ?_
    cases h
    exact G.iret dX8_restore_9 rfl
set_option maxRecDepth 100000 in
theorem eb_mm_rule_35 {s0 : Int} {o1 : Option PV} {μ : Mem} {res : (Int × Mem)} (h : mm_rule_35 s0 μ = some res) : G shM l D ad ca YX8_rule 35 [some (.inr 0), o1] [.inl s0] μ (some (.inl res.1)) res.2 := by
  rw [mm_rule_35] at h
  cases h
  exact G.iret dX8_rule_35 rfl
set_option maxRecDepth 100000 in
theorem e_mm_rule {a1 : Int} {μ : Mem} {res : (Int × Mem)} (h : mm_rule a1 μ = some res) : GM shM l D ad ca YX8_rule [.inr 0, .inl a1] μ (some (.inl res.1)) res.2 := by
  refine GM.of (L := [some (.inr 0), some (.inl a1)]) (by decide +kernel) rfl (Nat.le_of_ble_eq_true rfl) ?_
  rw [mm_rule] at h
  refine G.iload_n (i := 1) dX8_rule_0 rfl rfl ?_
  obtain ⟨v1, hv, h⟩ := bd h
  refine G.callS (e_mm_isMix hv) cs_X8_rule_X8_isMix rfl (Nat.le_of_ble_eq_true rfl) q901 q902 dX8_rule_1 ?_
  refine G.if_ne 10 dX8_rule_4 rfl (fun c => ?_) (fun c => ?_)
  · replace h := (if_neg c).symm.trans h
    refine G.aload_n (i := 0) dX8_rule_10 rfl rfl ?_
    obtain ⟨μ2, hv, h⟩ := bd h
    refine G.callV (e_mm_putAside hv) cs_X8_rule_X8_putAside ck8 shM_0 rfl rfl (Nat.le_of_ble_eq_true rfl) q907 q909 q29 dX8_rule_11 ?_
    refine G.aload_n (i := 0) dX8_rule_14 rfl rfl ?_
    refine G.aload_n (i := 0) dX8_rule_15 rfl rfl ?_
    refine G.iload_n (i := 1) dX8_rule_16 rfl rfl ?_
    obtain ⟨p3, hv, h⟩ := bd h
    refine G.callV (e_mm_rules hv) cs_X8_rule_X8_rules ck8 shM_0 rfl rfl (Nat.le_of_ble_eq_true rfl) q969 q971 q39 dX8_rule_17 ?_
    obtain ⟨p4, hv, h⟩ := bd h
    refine G.callV (e_mm_act hv) cs_X8_rule_X8_act ck8 shM_0 rfl rfl (Nat.le_of_ble_eq_true rfl) q922 q924 q32 dX8_rule_20 ?_
    refine G.if_ge 31 dX8_rule_23 rfl (fun c => ?_) (fun c => ?_)
    · replace h := (if_pos c).symm.trans h
      refine G.aload_n (i := 0) dX8_rule_31 rfl rfl ?_
      obtain ⟨p5, hv, h⟩ := bd h
      refine G.callV (e_mm_strength hv) cs_X8_rule_X8_strength ck8 shM_0 rfl rfl (Nat.le_of_ble_eq_true rfl) q973 q975 q40 dX8_rule_32 ?_
      exact eb_mm_rule_35  h
    · replace h := (if_neg c).symm.trans h
      refine G.bipush dX8_rule_26 kb_m3 ?_
      refine G.goto 35 dX8_rule_28 rfl ?_
      exact eb_mm_rule_35  h
  · replace h := (if_pos c).symm.trans h
    refine G.bipush dX8_rule_7 kb_m2 ?_
    cases h
    exact G.iret dX8_rule_9 rfl
set_option maxRecDepth 100000 in
theorem eb_mm_ruleOf_30 {s0 : Int} {o1 : Option PV} {μ : Mem} {res : Int} (h : mm_ruleOf_30 s0 μ = some res) : G shM l D ad ca YX8_ruleOf 30 [some (.inr 0), o1] [.inl s0] μ (some (.inl res)) μ := by
  rw [mm_ruleOf_30] at h
  cases h
  exact G.iret dX8_ruleOf_30 rfl
set_option maxRecDepth 100000 in
theorem e_mm_ruleOf {a1 : Int} {μ : Mem} {res : Int} (h : mm_ruleOf a1 μ = some res) : GM shM l D ad ca YX8_ruleOf [.inr 0, .inl a1] μ (some (.inl res)) μ := by
  refine GM.of (L := [some (.inr 0), some (.inl a1)]) (by decide +kernel) rfl (Nat.le_of_ble_eq_true rfl) ?_
  rw [mm_ruleOf] at h
  refine G.iload_n (i := 1) dX8_ruleOf_0 rfl rfl ?_
  refine G.iconst dX8_ruleOf_1 ki_0 ?_
  refine G.aload_n (i := 0) dX8_ruleOf_2 rfl rfl ?_
  refine G.getR ck8 shM_0 0 rfl (by decide) q838 dX8_ruleOf_3 ?_
  refine G.bipush dX8_ruleOf_6 kb_34 ?_
  refine G.ialdc 34 shM_1 rfl (by decide) dX8_ruleOf_8 ?_
  refine G.iconst dX8_ruleOf_9 ki_1 ?_
  refine G.isub dX8_ruleOf_10 ?_
  obtain ⟨v1, hv, h⟩ := bd h
  refine G.callS (e_mm_in hv) cs_X8_ruleOf_X8_in rfl (Nat.le_of_ble_eq_true rfl) q904 q905 dX8_ruleOf_11 ?_
  refine G.if_eq 29 dX8_ruleOf_14 rfl (fun c => ?_) (fun c => ?_)
  · replace h := (if_pos c).symm.trans h
    refine G.iconst dX8_ruleOf_29 ki_m1 ?_
    exact eb_mm_ruleOf_30  h
  · replace h := (if_neg c).symm.trans h
    refine G.aload_n (i := 0) dX8_ruleOf_17 rfl rfl ?_
    refine G.getR ck8 shM_0 0 rfl (by decide) q838 dX8_ruleOf_18 ?_
    refine G.bipush dX8_ruleOf_21 kb_35 ?_
    refine G.iload_n (i := 1) dX8_ruleOf_23 rfl rfl ?_
    refine G.iadd dX8_ruleOf_24 ?_
    obtain ⟨v2, hv, h⟩ := bd h
    obtain ⟨hb, rfl⟩ := aget_some hv
    refine G.iald shM_1 hb dX8_ruleOf_25 ?_
    refine G.goto 30 dX8_ruleOf_26 rfl ?_
    exact eb_mm_ruleOf_30  h
set_option maxRecDepth 100000 in
theorem eb_mm_dropJar_54 {o1 : Option PV} {o2 : Option PV} {μ : Mem} {res : Mem} (h : mm_dropJar_54 μ = some res) : G shM l D ad ca YX8_dropJar 54 [some (.inr 0), o1, o2] [] μ none res := by
  rw [mm_dropJar_54] at h
  refine G.aload_n (i := 0) dX8_dropJar_54 rfl rfl ?_
  refine G.getR ck8 shM_0 0 rfl (by decide) q838 dX8_dropJar_55 ?_
  refine G.bipush dX8_dropJar_58 kb_9 ?_
  refine G.iconst dX8_dropJar_60 ki_2 ?_
  refine G.aload_n (i := 0) dX8_dropJar_61 rfl rfl ?_
  refine G.getR ck8 shM_0 0 rfl (by decide) q838 dX8_dropJar_62 ?_
  refine G.bipush dX8_dropJar_65 kb_8 ?_
  refine G.ialdc 8 shM_1 rfl (by decide) dX8_dropJar_67 ?_
  refine G.imul dX8_dropJar_68 ?_
  refine G.iadd dX8_dropJar_69 ?_
  refine G.iconst dX8_dropJar_70 ki_0 ?_
  obtain ⟨μ3, hv, h⟩ := bd h
  obtain ⟨hb, rfl⟩ := aput_some hv
  refine G.iast shM_1 hb dX8_dropJar_71 ?_
  refine G.aload_n (i := 0) dX8_dropJar_72 rfl rfl ?_
  refine G.getR ck8 shM_0 0 rfl (by decide) q838 dX8_dropJar_73 ?_
  refine G.bipush dX8_dropJar_76 kb_9 ?_
  refine G.iconst dX8_dropJar_78 ki_2 ?_
  refine G.aload_n (i := 0) dX8_dropJar_79 rfl rfl ?_
  refine G.getR ck8 shM_0 0 rfl (by decide) q838 dX8_dropJar_80 ?_
  refine G.bipush dX8_dropJar_83 kb_8 ?_
  refine G.ialdc 8 shM_1 rfl (by decide) dX8_dropJar_85 ?_
  refine G.imul dX8_dropJar_86 ?_
  refine G.iadd dX8_dropJar_87 ?_
  refine G.iconst dX8_dropJar_88 ki_1 ?_
  refine G.iadd dX8_dropJar_89 ?_
  refine G.iconst dX8_dropJar_90 ki_0 ?_
  obtain ⟨μ4, hv, h⟩ := bd h
  obtain ⟨hb, rfl⟩ := aput_some hv
  refine G.iast shM_1 hb dX8_dropJar_91 ?_
  cases h
  exact G.vret dX8_dropJar_92 rfl
set_option maxRecDepth 100000 in
theorem eb_mm_dropJar_18 : ∀ (n : Nat) (x2 : Int) (o1 : Option PV) (μ : Mem) (res : Mem), mm_dropJar_18 n x2 μ = some res → G shM l D ad ca YX8_dropJar 18 [some (.inr 0), o1, some (.inl x2)] [] μ none res := by
  intro n
  induction n with
  | zero =>
    intro x2 o1 μ res h
    rw [mm_dropJar_18] at h
    cases h
  | succ n ih =>
    intro x2 o1 μ res h
    rw [mm_dropJar_18] at h
    refine G.iload_n (i := 2) dX8_dropJar_18 rfl rfl ?_
    refine G.bipush dX8_dropJar_19 kb_9 ?_
    refine G.iconst dX8_dropJar_21 ki_2 ?_
    refine G.aload_n (i := 0) dX8_dropJar_22 rfl rfl ?_
    refine G.getR ck8 shM_0 0 rfl (by decide) q838 dX8_dropJar_23 ?_
    refine G.bipush dX8_dropJar_26 kb_8 ?_
    refine G.ialdc 8 shM_1 rfl (by decide) dX8_dropJar_28 ?_
    refine G.imul dX8_dropJar_29 ?_
    refine G.iadd dX8_dropJar_30 ?_
    refine G.icmp_ge 54 dX8_dropJar_31 rfl (fun c => ?_) (fun c => ?_)
    · replace h := (if_pos c).symm.trans h
      exact eb_mm_dropJar_54  h
    · replace h := (if_neg c).symm.trans h
      refine G.aload_n (i := 0) dX8_dropJar_34 rfl rfl ?_
      refine G.getR ck8 shM_0 0 rfl (by decide) q838 dX8_dropJar_35 ?_
      refine G.iload_n (i := 2) dX8_dropJar_38 rfl rfl ?_
      refine G.aload_n (i := 0) dX8_dropJar_39 rfl rfl ?_
      refine G.getR ck8 shM_0 0 rfl (by decide) q838 dX8_dropJar_40 ?_
      refine G.iload_n (i := 2) dX8_dropJar_43 rfl rfl ?_
      refine G.iconst dX8_dropJar_44 ki_2 ?_
      refine G.iadd dX8_dropJar_45 ?_
      obtain ⟨v5, hv, h⟩ := bd h
      obtain ⟨hb, rfl⟩ := aget_some hv
      refine G.iald shM_1 hb dX8_dropJar_46 ?_
      obtain ⟨μ6, hv, h⟩ := bd h
      obtain ⟨hb, rfl⟩ := aput_some hv
      refine G.iast shM_1 hb dX8_dropJar_47 ?_
      replace h := bnd_mp h
      refine G.iinc dX8_dropJar_48 rfl (Nat.le_of_ble_eq_true rfl) ?_
      refine G.goto 18 dX8_dropJar_51 rfl ?_
      exact ih _ _ _ _ h
set_option maxRecDepth 100000 in
theorem e_mm_dropJar {a1 : Int} {μ : Mem} {res : Mem} (h : mm_dropJar a1 μ = some res) : GM shM l D ad ca YX8_dropJar [.inr 0, .inl a1] μ none res := by
  refine GM.of (L := [some (.inr 0), some (.inl a1), none]) (by decide +kernel) rfl (Nat.le_of_ble_eq_true rfl) ?_
  rw [mm_dropJar] at h
  refine G.aload_n (i := 0) dX8_dropJar_0 rfl rfl ?_
  refine G.getR ck8 shM_0 0 rfl (by decide) q838 dX8_dropJar_1 ?_
  refine G.bipush dX8_dropJar_4 kb_8 ?_
  refine G.dup2 dX8_dropJar_6 ?_
  refine G.ialdc 8 shM_1 rfl (by decide) dX8_dropJar_7 ?_
  refine G.iconst dX8_dropJar_8 ki_1 ?_
  refine G.isub dX8_dropJar_9 ?_
  replace h := bnd_mp h
  refine G.iastc 8 shM_1 rfl (by decide) dX8_dropJar_10 ?_
  refine G.bipush dX8_dropJar_11 kb_9 ?_
  refine G.iconst dX8_dropJar_13 ki_2 ?_
  refine G.iload_n (i := 1) dX8_dropJar_14 rfl rfl ?_
  refine G.imul dX8_dropJar_15 ?_
  refine G.iadd dX8_dropJar_16 ?_
  replace h := bnd_mp h
  refine G.istore_n (i := 2) dX8_dropJar_17 rfl (Nat.le_of_ble_eq_true rfl) ?_
  exact eb_mm_dropJar_18  _ _ _ _ _ h
set_option maxRecDepth 100000 in
theorem eb_mm_serves_185 {o1 : Option PV} {o2 : Option PV} {o3 : Option PV} {o4 : Option PV} {μ : Mem} {res : (Int × Mem)} (h : mm_serves_185 μ = some res) : G shM l D ad ca YX8_serves 185 [some (.inr 0), o1, o2, o3, o4] [] μ (some (.inl res.1)) res.2 := by
  rw [mm_serves_185] at h
  refine G.aload_n (i := 0) dX8_serves_185 rfl rfl ?_
  refine G.getR ck8 shM_0 0 rfl (by decide) q838 dX8_serves_186 ?_
  refine G.bipush dX8_serves_189 kb_59 ?_
  refine G.dup2 dX8_serves_191 ?_
  refine G.ialdc 59 shM_1 rfl (by decide) dX8_serves_192 ?_
  refine G.iconst dX8_serves_193 ki_1 ?_
  refine G.iadd dX8_serves_194 ?_
  replace h := bnd_mp h
  refine G.iastc 59 shM_1 rfl (by decide) dX8_serves_195 ?_
  refine G.iconst dX8_serves_196 ki_0 ?_
  cases h
  exact G.iret dX8_serves_197 rfl
set_option maxRecDepth 100000 in
theorem eb_mm_serves_119 {x2 : Int} {x3 : Int} {o1 : Option PV} {o4 : Option PV} {μ : Mem} {res : (Int × Mem)} (h : mm_serves_119 x2 x3 μ = some res) : G shM l D ad ca YX8_serves 119 [some (.inr 0), o1, some (.inl x2), some (.inl x3), o4] [] μ (some (.inl res.1)) res.2 := by
  rw [mm_serves_119] at h
  refine G.aload_n (i := 0) dX8_serves_119 rfl rfl ?_
  refine G.iload_n (i := 3) dX8_serves_120 rfl rfl ?_
  obtain ⟨v9, hv, h⟩ := bd h
  refine G.callV (e_mm_priceOf hv) cs_X8_serves_X8_priceOf ck8 shM_0 rfl rfl (Nat.le_of_ble_eq_true rfl) q914 q916 q30 dX8_serves_121 ?_
  refine G.aload_n (i := 0) dX8_serves_124 rfl rfl ?_
  refine G.iload_n (i := 3) dX8_serves_125 rfl rfl ?_
  obtain ⟨v10, hv, h⟩ := bd h
  refine G.callV (e_mm_priceOf hv) cs_X8_serves_X8_priceOf ck8 shM_0 rfl rfl (Nat.le_of_ble_eq_true rfl) q914 q916 q30 dX8_serves_126 ?_
  refine G.iconst dX8_serves_129 ki_2 ?_
  refine G.idiv dX8_serves_130 (by decide) ?_
  refine G.iadd dX8_serves_131 ?_
  replace h := bnd_mp h
  refine G.istore dX8_serves_132 (Nat.le_of_ble_eq_true rfl) ?_
  refine G.aload_n (i := 0) dX8_serves_134 rfl rfl ?_
  refine G.getR ck8 shM_0 0 rfl (by decide) q838 dX8_serves_135 ?_
  refine G.bipush dX8_serves_138 kb_54 ?_
  refine G.dup2 dX8_serves_140 ?_
  refine G.ialdc 54 shM_1 rfl (by decide) dX8_serves_141 ?_
  refine G.iload_n (i := 3) dX8_serves_142 rfl rfl ?_
  obtain ⟨v12, hv, h⟩ := bd h
  refine G.callS (e_mm_units hv) cs_X8_serves_X8_units rfl (Nat.le_of_ble_eq_true rfl) q911 q912 dX8_serves_143 ?_
  refine G.iadd dX8_serves_146 ?_
  replace h := bnd_mp h
  refine G.iastc 54 shM_1 rfl (by decide) dX8_serves_147 ?_
  refine G.aload_n (i := 0) dX8_serves_148 rfl rfl ?_
  refine G.getR ck8 shM_0 0 rfl (by decide) q838 dX8_serves_149 ?_
  refine G.bipush dX8_serves_152 kb_57 ?_
  refine G.dup2 dX8_serves_154 ?_
  refine G.ialdc 57 shM_1 rfl (by decide) dX8_serves_155 ?_
  refine G.iload dX8_serves_156 rfl ?_
  refine G.iadd dX8_serves_158 ?_
  replace h := bnd_mp h
  refine G.iastc 57 shM_1 rfl (by decide) dX8_serves_159 ?_
  refine G.aload_n (i := 0) dX8_serves_160 rfl rfl ?_
  refine G.getR ck8 shM_0 0 rfl (by decide) q838 dX8_serves_161 ?_
  refine G.bipush dX8_serves_164 kb_58 ?_
  refine G.dup2 dX8_serves_166 ?_
  refine G.ialdc 58 shM_1 rfl (by decide) dX8_serves_167 ?_
  refine G.iconst dX8_serves_168 ki_1 ?_
  refine G.iadd dX8_serves_169 ?_
  replace h := bnd_mp h
  refine G.iastc 58 shM_1 rfl (by decide) dX8_serves_170 ?_
  refine G.aload_n (i := 0) dX8_serves_171 rfl rfl ?_
  refine G.iload_n (i := 2) dX8_serves_172 rfl rfl ?_
  obtain ⟨μ16, hv, h⟩ := bd h
  refine G.callV (e_mm_dropJar hv) cs_X8_serves_X8_dropJar ck8 shM_0 rfl rfl (Nat.le_of_ble_eq_true rfl) q961 q963 q38 dX8_serves_173 ?_
  refine G.iload dX8_serves_176 rfl ?_
  cases h
  exact G.iret dX8_serves_178 rfl
set_option maxRecDepth 100000 in
theorem eb_mm_serves_93 : ∀ (n : Nat) (x1 : Int) (x2 : Int) (o3 : Option PV) (o4 : Option PV) (μ : Mem) (res : (Int × Mem)), mm_serves_93 n x1 x2 μ = some res → G shM l D ad ca YX8_serves 93 [some (.inr 0), some (.inl x1), some (.inl x2), o3, o4] [] μ (some (.inl res.1)) res.2 := by
  intro n
  induction n with
  | zero =>
    intro x1 x2 o3 o4 μ res h
    rw [mm_serves_93] at h
    cases h
  | succ n ih =>
    intro x1 x2 o3 o4 μ res h
    rw [mm_serves_93] at h
    refine G.iload_n (i := 2) dX8_serves_93 rfl rfl ?_
    refine G.aload_n (i := 0) dX8_serves_94 rfl rfl ?_
    refine G.getR ck8 shM_0 0 rfl (by decide) q838 dX8_serves_95 ?_
    refine G.bipush dX8_serves_98 kb_8 ?_
    refine G.ialdc 8 shM_1 rfl (by decide) dX8_serves_100 ?_
    refine G.icmp_ge 185 dX8_serves_101 rfl (fun c => ?_) (fun c => ?_)
    · replace h := (if_pos c).symm.trans h
      exact eb_mm_serves_185  h
    · replace h := (if_neg c).symm.trans h
      refine G.aload_n (i := 0) dX8_serves_104 rfl rfl ?_
      refine G.iload_n (i := 2) dX8_serves_105 rfl rfl ?_
      obtain ⟨v6, hv, h⟩ := bd h
      refine G.callV (e_mm_mixIn hv) cs_X8_serves_X8_mixIn ck8 shM_0 rfl rfl (Nat.le_of_ble_eq_true rfl) q942 q944 q36 dX8_serves_106 ?_
      refine G.istore_n (i := 3) dX8_serves_109 rfl (Nat.le_of_ble_eq_true rfl) ?_
      refine G.aload_n (i := 0) dX8_serves_110 rfl rfl ?_
      refine G.iload_n (i := 3) dX8_serves_111 rfl rfl ?_
      obtain ⟨p7, hv, h⟩ := bd h
      refine G.callV (e_mm_taste hv) cs_X8_serves_X8_taste ck8 shM_0 rfl rfl (Nat.le_of_ble_eq_true rfl) q1013 q1015 q46 dX8_serves_112 ?_
      refine G.iload_n (i := 1) dX8_serves_115 rfl rfl ?_
      refine G.icmp_ne 179 dX8_serves_116 rfl (fun c => ?_) (fun c => ?_)
      · replace h := (if_neg c).symm.trans h
        replace h := bnd_mp h
        refine G.iinc dX8_serves_179 rfl (Nat.le_of_ble_eq_true rfl) ?_
        refine G.goto 93 dX8_serves_182 rfl ?_
        exact ih _ _ _ _ _ _ h
      · replace h := (if_pos c).symm.trans h
        exact eb_mm_serves_119  h
set_option maxRecDepth 100000 in
theorem eb_mm_serves_75 {x1 : Int} {o2 : Option PV} {o3 : Option PV} {o4 : Option PV} {μ : Mem} {res : (Int × Mem)} (h : mm_serves_75 x1 μ = some res) : G shM l D ad ca YX8_serves 75 [some (.inr 0), some (.inl x1), o2, o3, o4] [] μ (some (.inl res.1)) res.2 := by
  rw [mm_serves_75] at h
  refine G.aload_n (i := 0) dX8_serves_75 rfl rfl ?_
  refine G.getR ck8 shM_0 0 rfl (by decide) q838 dX8_serves_76 ?_
  refine G.bipush dX8_serves_79 kb_44 ?_
  refine G.aload_n (i := 0) dX8_serves_81 rfl rfl ?_
  refine G.getR ck8 shM_0 0 rfl (by decide) q838 dX8_serves_82 ?_
  refine G.bipush dX8_serves_85 kb_43 ?_
  refine G.ialdc 43 shM_1 rfl (by decide) dX8_serves_87 ?_
  refine G.iadd dX8_serves_88 ?_
  refine G.iconst dX8_serves_89 ki_0 ?_
  obtain ⟨μ4, hv, h⟩ := bd h
  obtain ⟨hb, rfl⟩ := aput_some hv
  refine G.iast shM_1 hb dX8_serves_90 ?_
  refine G.iconst dX8_serves_91 ki_0 ?_
  refine G.istore_n (i := 2) dX8_serves_92 rfl (Nat.le_of_ble_eq_true rfl) ?_
  exact eb_mm_serves_93  _ _ _ _ _ _ _ h
set_option maxRecDepth 100000 in
theorem eb_mm_serves_38 : ∀ (n : Nat) (x1 : Int) (x2 : Int) (o3 : Option PV) (o4 : Option PV) (μ : Mem) (res : (Int × Mem)), mm_serves_38 n x1 x2 μ = some res → G shM l D ad ca YX8_serves 38 [some (.inr 0), some (.inl x1), some (.inl x2), o3, o4] [] μ (some (.inl res.1)) res.2 := by
  intro n
  induction n with
  | zero =>
    intro x1 x2 o3 o4 μ res h
    rw [mm_serves_38] at h
    cases h
  | succ n ih =>
    intro x1 x2 o3 o4 μ res h
    rw [mm_serves_38] at h
    refine G.iload_n (i := 2) dX8_serves_38 rfl rfl ?_
    refine G.aload_n (i := 0) dX8_serves_39 rfl rfl ?_
    refine G.getR ck8 shM_0 0 rfl (by decide) q838 dX8_serves_40 ?_
    refine G.bipush dX8_serves_43 kb_43 ?_
    refine G.ialdc 43 shM_1 rfl (by decide) dX8_serves_45 ?_
    refine G.icmp_ge 75 dX8_serves_46 rfl (fun c => ?_) (fun c => ?_)
    · replace h := (if_pos c).symm.trans h
      exact eb_mm_serves_75  h
    · replace h := (if_neg c).symm.trans h
      refine G.aload_n (i := 0) dX8_serves_49 rfl rfl ?_
      refine G.getR ck8 shM_0 0 rfl (by decide) q838 dX8_serves_50 ?_
      refine G.bipush dX8_serves_53 kb_44 ?_
      refine G.iload_n (i := 2) dX8_serves_55 rfl rfl ?_
      refine G.iadd dX8_serves_56 ?_
      refine G.aload_n (i := 0) dX8_serves_57 rfl rfl ?_
      refine G.getR ck8 shM_0 0 rfl (by decide) q838 dX8_serves_58 ?_
      refine G.bipush dX8_serves_61 kb_44 ?_
      refine G.iload_n (i := 2) dX8_serves_63 rfl rfl ?_
      refine G.iadd dX8_serves_64 ?_
      refine G.iconst dX8_serves_65 ki_1 ?_
      refine G.iadd dX8_serves_66 ?_
      obtain ⟨v17, hv, h⟩ := bd h
      obtain ⟨hb, rfl⟩ := aget_some hv
      refine G.iald shM_1 hb dX8_serves_67 ?_
      obtain ⟨μ18, hv, h⟩ := bd h
      obtain ⟨hb, rfl⟩ := aput_some hv
      refine G.iast shM_1 hb dX8_serves_68 ?_
      replace h := bnd_mp h
      refine G.iinc dX8_serves_69 rfl (Nat.le_of_ble_eq_true rfl) ?_
      refine G.goto 38 dX8_serves_72 rfl ?_
      exact ih _ _ _ _ _ _ h
set_option maxRecDepth 100000 in
theorem e_mm_serves {μ : Mem} {res : (Int × Mem)} (h : mm_serves μ = some res) : GM shM l D ad ca YX8_serves [.inr 0] μ (some (.inl res.1)) res.2 := by
  refine GM.of (L := [some (.inr 0), none, none, none, none]) (by decide +kernel) rfl (Nat.le_of_ble_eq_true rfl) ?_
  rw [mm_serves] at h
  refine G.aload_n (i := 0) dX8_serves_0 rfl rfl ?_
  refine G.getR ck8 shM_0 0 rfl (by decide) q838 dX8_serves_1 ?_
  refine G.bipush dX8_serves_4 kb_43 ?_
  refine G.ialdc 43 shM_1 rfl (by decide) dX8_serves_6 ?_
  refine G.if_ne 13 dX8_serves_7 rfl (fun c => ?_) (fun c => ?_)
  · replace h := (if_neg c).symm.trans h
    refine G.aload_n (i := 0) dX8_serves_13 rfl rfl ?_
    refine G.aload_n (i := 0) dX8_serves_14 rfl rfl ?_
    refine G.getR ck8 shM_0 0 rfl (by decide) q838 dX8_serves_15 ?_
    refine G.bipush dX8_serves_18 kb_44 ?_
    refine G.ialdc 44 shM_1 rfl (by decide) dX8_serves_20 ?_
    obtain ⟨p1, hv, h⟩ := bd h
    refine G.callV (e_mm_taste hv) cs_X8_serves_X8_taste ck8 shM_0 rfl rfl (Nat.le_of_ble_eq_true rfl) q1013 q1015 q46 dX8_serves_21 ?_
    replace h := bnd_mp h
    refine G.istore_n (i := 1) dX8_serves_24 rfl (Nat.le_of_ble_eq_true rfl) ?_
    refine G.aload_n (i := 0) dX8_serves_25 rfl rfl ?_
    refine G.getR ck8 shM_0 0 rfl (by decide) q838 dX8_serves_26 ?_
    refine G.bipush dX8_serves_29 kb_43 ?_
    refine G.dup2 dX8_serves_31 ?_
    refine G.ialdc 43 shM_1 rfl (by decide) dX8_serves_32 ?_
    refine G.iconst dX8_serves_33 ki_1 ?_
    refine G.isub dX8_serves_34 ?_
    replace h := bnd_mp h
    refine G.iastc 43 shM_1 rfl (by decide) dX8_serves_35 ?_
    refine G.iconst dX8_serves_36 ki_0 ?_
    refine G.istore_n (i := 2) dX8_serves_37 rfl (Nat.le_of_ble_eq_true rfl) ?_
    exact eb_mm_serves_38  _ _ _ _ _ _ _ h
  · replace h := (if_pos c).symm.trans h
    refine G.bipush dX8_serves_10 kb_m5 ?_
    cases h
    exact G.iret dX8_serves_12 rfl
set_option maxRecDepth 100000 in
theorem e_mm_serve {μ : Mem} {res : (Int × Mem)} (h : mm_serve μ = some res) : GM shM l D ad ca YX8_serve [.inr 0] μ (some (.inl res.1)) res.2 := by
  refine GM.of (L := [some (.inr 0)]) (by decide +kernel) rfl (Nat.le_of_ble_eq_true rfl) ?_
  rw [mm_serve] at h
  refine G.aload_n (i := 0) dX8_serve_0 rfl rfl ?_
  obtain ⟨μ1, hv, h⟩ := bd h
  refine G.callV (e_mm_lay hv) cs_X8_serve_X8_lay ck8 shM_0 rfl rfl (Nat.le_of_ble_eq_true rfl) q977 q979 q41 dX8_serve_1 ?_
  refine G.aload_n (i := 0) dX8_serve_4 rfl rfl ?_
  obtain ⟨μ2, hv, h⟩ := bd h
  refine G.callV (e_mm_putAside hv) cs_X8_serve_X8_putAside ck8 shM_0 rfl rfl (Nat.le_of_ble_eq_true rfl) q907 q909 q29 dX8_serve_5 ?_
  refine G.aload_n (i := 0) dX8_serve_8 rfl rfl ?_
  refine G.aload_n (i := 0) dX8_serve_9 rfl rfl ?_
  obtain ⟨p3, hv, h⟩ := bd h
  refine G.callV (e_mm_serves hv) cs_X8_serve_X8_serves ck8 shM_0 rfl rfl (Nat.le_of_ble_eq_true rfl) q1009 q1011 q45 dX8_serve_10 ?_
  obtain ⟨p4, hv, h⟩ := bd h
  refine G.callV (e_mm_act hv) cs_X8_serve_X8_act ck8 shM_0 rfl rfl (Nat.le_of_ble_eq_true rfl) q922 q924 q32 dX8_serve_13 ?_
  cases h
  exact G.iret dX8_serve_16 rfl
set_option maxRecDepth 100000 in
theorem eb_mm_shelf_13 {o1 : Option PV} {o2 : Option PV} {o3 : Option PV} {o4 : Option PV} {o5 : Option PV} {o6 : Option PV} {μ : Mem} {res : (Int × Mem)} (h : mm_shelf_13 μ = some res) : G shM l D ad ca YX8_shelf 13 [some (.inr 0), o1, o2, o3, o4, o5, o6] [] μ (some (.inl res.1)) res.2 := by
  rw [mm_shelf_13] at h
  refine G.bipush dX8_shelf_13 kb_m2 ?_
  cases h
  exact G.iret dX8_shelf_15 rfl
set_option maxRecDepth 100000 in
theorem eb_mm_shelf_197 {s0 : Int} {o1 : Option PV} {o2 : Option PV} {o3 : Option PV} {o4 : Option PV} {o5 : Option PV} {o6 : Option PV} {μ : Mem} {res : (Int × Mem)} (h : mm_shelf_197 s0 μ = some res) : G shM l D ad ca YX8_shelf 197 [some (.inr 0), o1, o2, o3, o4, o5, o6] [.inl s0] μ (some (.inl res.1)) res.2 := by
  rw [mm_shelf_197] at h
  cases h
  exact G.iret dX8_shelf_197 rfl
set_option maxRecDepth 100000 in
theorem eb_mm_shelf_156 {x2 : Int} {x3 : Int} {x4 : Int} {x5 : Int} {o1 : Option PV} {o6 : Option PV} {μ : Mem} {res : (Int × Mem)} (h : mm_shelf_156 x2 x3 x4 x5 μ = some res) : G shM l D ad ca YX8_shelf 156 [some (.inr 0), o1, some (.inl x2), some (.inl x3), some (.inl x4), some (.inl x5), o6] [] μ (some (.inl res.1)) res.2 := by
  rw [mm_shelf_156] at h
  refine G.iload_n (i := 2) dX8_shelf_156 rfl rfl ?_
  refine G.if_ne 164 dX8_shelf_157 rfl (fun c => ?_) (fun c => ?_)
  · replace h := (if_neg c).symm.trans h
    refine G.iload_n (i := 2) dX8_shelf_164 rfl rfl ?_
    refine G.iconst dX8_shelf_165 ki_1 ?_
    refine G.icmp_ne 177 dX8_shelf_166 rfl (fun c => ?_) (fun c => ?_)
    · replace h := (if_neg c).symm.trans h
      refine G.iload_n (i := 2) dX8_shelf_177 rfl rfl ?_
      refine G.iconst dX8_shelf_178 ki_2 ?_
      refine G.icmp_ne 191 dX8_shelf_179 rfl (fun c => ?_) (fun c => ?_)
      · replace h := (if_neg c).symm.trans h
        refine G.aload_n (i := 0) dX8_shelf_191 rfl rfl ?_
        refine G.iload dX8_shelf_192 rfl ?_
        obtain ⟨v4, hv, h⟩ := bd h
        refine G.callV (e_mm_numberOf hv) cs_X8_shelf_X8_numberOf ck8 shM_0 rfl rfl (Nat.le_of_ble_eq_true rfl) q938 q940 q35 dX8_shelf_194 ?_
        exact eb_mm_shelf_197  h
      · replace h := (if_pos c).symm.trans h
        refine G.aload_n (i := 0) dX8_shelf_182 rfl rfl ?_
        refine G.iload dX8_shelf_183 rfl ?_
        obtain ⟨v5, hv, h⟩ := bd h
        refine G.callV (e_mm_numberOf hv) cs_X8_shelf_X8_numberOf ck8 shM_0 rfl rfl (Nat.le_of_ble_eq_true rfl) q938 q940 q35 dX8_shelf_185 ?_
        refine G.goto 197 dX8_shelf_188 rfl ?_
        exact eb_mm_shelf_197  h
    · replace h := (if_pos c).symm.trans h
      refine G.aload_n (i := 0) dX8_shelf_169 rfl rfl ?_
      refine G.iload_n (i := 3) dX8_shelf_170 rfl rfl ?_
      obtain ⟨p6, hv, h⟩ := bd h
      refine G.callV (e_mm_jarsLike hv) cs_X8_shelf_X8_jarsLike ck8 shM_0 rfl rfl (Nat.le_of_ble_eq_true rfl) q1100 q1102 q56 dX8_shelf_171 ?_
      refine G.goto 197 dX8_shelf_174 rfl ?_
      exact eb_mm_shelf_197  h
  · replace h := (if_pos c).symm.trans h
    refine G.iload_n (i := 3) dX8_shelf_160 rfl rfl ?_
    refine G.goto 197 dX8_shelf_161 rfl ?_
    exact eb_mm_shelf_197  h
set_option maxRecDepth 100000 in
theorem eb_mm_shelf_150 {K69 : Int → Int → Int → Int → Int → Mem → Option (Int × Mem)} (hK69 : ∀ (x2 : Int) (x3 : Int) (x4 : Int) (x5 : Int) (x6 : Int) (o1 : Option PV) (μ : Mem) (res : (Int × Mem)), K69 x2 x3 x4 x5 x6 μ = some res → G shM l D ad ca YX8_shelf 69 [some (.inr 0), o1, some (.inl x2), some (.inl x3), some (.inl x4), some (.inl x5), some (.inl x6)] [] μ (some (.inl res.1)) res.2) {x2 : Int} {x3 : Int} {x4 : Int} {x5 : Int} {x6 : Int} {o1 : Option PV} {μ : Mem} {res : (Int × Mem)} (h : mm_shelf_150 K69 x2 x3 x4 x5 x6 μ = some res) : G shM l D ad ca YX8_shelf 150 [some (.inr 0), o1, some (.inl x2), some (.inl x3), some (.inl x4), some (.inl x5), some (.inl x6)] [] μ (some (.inl res.1)) res.2 := by
  rw [mm_shelf_150] at h
  replace h := bnd_mp h
  refine G.iinc dX8_shelf_150 rfl (Nat.le_of_ble_eq_true rfl) ?_
  refine G.goto 69 dX8_shelf_153 rfl ?_
  exact hK69 _ _ _ _ _ _ _ _ h
set_option maxRecDepth 100000 in
theorem eb_mm_shelf_148 {K69 : Int → Int → Int → Int → Int → Mem → Option (Int × Mem)} (hK69 : ∀ (x2 : Int) (x3 : Int) (x4 : Int) (x5 : Int) (x6 : Int) (o1 : Option PV) (μ : Mem) (res : (Int × Mem)), K69 x2 x3 x4 x5 x6 μ = some res → G shM l D ad ca YX8_shelf 69 [some (.inr 0), o1, some (.inl x2), some (.inl x3), some (.inl x4), some (.inl x5), some (.inl x6)] [] μ (some (.inl res.1)) res.2) {x2 : Int} {x3 : Int} {x4 : Int} {x6 : Int} {s0 : Int} {o1 : Option PV} {o5 : Option PV} {μ : Mem} {res : (Int × Mem)} (h : mm_shelf_148 K69 x2 x3 x4 x6 s0 μ = some res) : G shM l D ad ca YX8_shelf 148 [some (.inr 0), o1, some (.inl x2), some (.inl x3), some (.inl x4), o5, some (.inl x6)] [.inl s0] μ (some (.inl res.1)) res.2 := by
  rw [mm_shelf_148] at h
  refine G.istore dX8_shelf_148 (Nat.le_of_ble_eq_true rfl) ?_
  exact eb_mm_shelf_150 hK69 h
set_option maxRecDepth 100000 in
theorem eb_mm_shelf_141 {K69 : Int → Int → Int → Int → Int → Mem → Option (Int × Mem)} (hK69 : ∀ (x2 : Int) (x3 : Int) (x4 : Int) (x5 : Int) (x6 : Int) (o1 : Option PV) (μ : Mem) (res : (Int × Mem)), K69 x2 x3 x4 x5 x6 μ = some res → G shM l D ad ca YX8_shelf 69 [some (.inr 0), o1, some (.inl x2), some (.inl x3), some (.inl x4), some (.inl x5), some (.inl x6)] [] μ (some (.inl res.1)) res.2) {x2 : Int} {x3 : Int} {x4 : Int} {x6 : Int} {o1 : Option PV} {o5 : Option PV} {μ : Mem} {res : (Int × Mem)} (h : mm_shelf_141 K69 x2 x3 x4 x6 μ = some res) : G shM l D ad ca YX8_shelf 141 [some (.inr 0), o1, some (.inl x2), some (.inl x3), some (.inl x4), o5, some (.inl x6)] [] μ (some (.inl res.1)) res.2 := by
  rw [mm_shelf_141] at h
  refine G.iload dX8_shelf_141 rfl ?_
  refine G.goto 148 dX8_shelf_143 rfl ?_
  exact eb_mm_shelf_148 hK69 h
set_option maxRecDepth 100000 in
theorem eb_mm_shelf_109 {K69 : Int → Int → Int → Int → Int → Mem → Option (Int × Mem)} (hK69 : ∀ (x2 : Int) (x3 : Int) (x4 : Int) (x5 : Int) (x6 : Int) (o1 : Option PV) (μ : Mem) (res : (Int × Mem)), K69 x2 x3 x4 x5 x6 μ = some res → G shM l D ad ca YX8_shelf 69 [some (.inr 0), o1, some (.inl x2), some (.inl x3), some (.inl x4), some (.inl x5), some (.inl x6)] [] μ (some (.inl res.1)) res.2) {x2 : Int} {x3 : Int} {x5 : Int} {x6 : Int} {s0 : Int} {o1 : Option PV} {o4 : Option PV} {μ : Mem} {res : (Int × Mem)} (h : mm_shelf_109 K69 x2 x3 x5 x6 s0 μ = some res) : G shM l D ad ca YX8_shelf 109 [some (.inr 0), o1, some (.inl x2), some (.inl x3), o4, some (.inl x5), some (.inl x6)] [.inl s0] μ (some (.inl res.1)) res.2 := by
  rw [mm_shelf_109] at h
  refine G.istore dX8_shelf_109 (Nat.le_of_ble_eq_true rfl) ?_
  refine G.iload dX8_shelf_111 rfl ?_
  refine G.bipush dX8_shelf_113 kb_m5 ?_
  refine G.icmp_eq 141 dX8_shelf_115 rfl (fun c => ?_) (fun c => ?_)
  · replace h := (if_pos c).symm.trans h
    exact eb_mm_shelf_141 hK69 h
  · replace h := (if_neg c).symm.trans h
    refine G.aload_n (i := 0) dX8_shelf_118 rfl rfl ?_
    refine G.aload_n (i := 0) dX8_shelf_119 rfl rfl ?_
    refine G.iload dX8_shelf_120 rfl ?_
    obtain ⟨v10, hv, h⟩ := bd h
    refine G.callV (e_mm_mixIn hv) cs_X8_shelf_X8_mixIn ck8 shM_0 rfl rfl (Nat.le_of_ble_eq_true rfl) q942 q944 q36 dX8_shelf_122 ?_
    obtain ⟨v11, hv, h⟩ := bd h
    refine G.callV (e_mm_priceOf hv) cs_X8_shelf_X8_priceOf ck8 shM_0 rfl rfl (Nat.le_of_ble_eq_true rfl) q914 q916 q30 dX8_shelf_125 ?_
    refine G.aload_n (i := 0) dX8_shelf_128 rfl rfl ?_
    refine G.aload_n (i := 0) dX8_shelf_129 rfl rfl ?_
    refine G.iload dX8_shelf_130 rfl ?_
    obtain ⟨v12, hv, h⟩ := bd h
    refine G.callV (e_mm_mixIn hv) cs_X8_shelf_X8_mixIn ck8 shM_0 rfl rfl (Nat.le_of_ble_eq_true rfl) q942 q944 q36 dX8_shelf_132 ?_
    obtain ⟨v13, hv, h⟩ := bd h
    refine G.callV (e_mm_priceOf hv) cs_X8_shelf_X8_priceOf ck8 shM_0 rfl rfl (Nat.le_of_ble_eq_true rfl) q914 q916 q30 dX8_shelf_135 ?_
    refine G.icmp_ge 146 dX8_shelf_138 rfl (fun c => ?_) (fun c => ?_)
    · replace h := (if_pos c).symm.trans h
      refine G.iload dX8_shelf_146 rfl ?_
      exact eb_mm_shelf_148 hK69 h
    · replace h := (if_neg c).symm.trans h
      exact eb_mm_shelf_141 hK69 h
set_option maxRecDepth 100000 in
theorem eb_mm_shelf_69 : ∀ (n : Nat) (x2 : Int) (x3 : Int) (x4 : Int) (x5 : Int) (x6 : Int) (o1 : Option PV) (μ : Mem) (res : (Int × Mem)), mm_shelf_69 n x2 x3 x4 x5 x6 μ = some res → G shM l D ad ca YX8_shelf 69 [some (.inr 0), o1, some (.inl x2), some (.inl x3), some (.inl x4), some (.inl x5), some (.inl x6)] [] μ (some (.inl res.1)) res.2 := by
  intro n
  induction n with
  | zero =>
    intro x2 x3 x4 x5 x6 o1 μ res h
    rw [mm_shelf_69] at h
    cases h
  | succ n ih =>
    intro x2 x3 x4 x5 x6 o1 μ res h
    rw [mm_shelf_69] at h
    refine G.iload dX8_shelf_69 rfl ?_
    refine G.aload_n (i := 0) dX8_shelf_71 rfl rfl ?_
    refine G.getR ck8 shM_0 0 rfl (by decide) q838 dX8_shelf_72 ?_
    refine G.bipush dX8_shelf_75 kb_8 ?_
    refine G.ialdc 8 shM_1 rfl (by decide) dX8_shelf_77 ?_
    refine G.icmp_ge 156 dX8_shelf_78 rfl (fun c => ?_) (fun c => ?_)
    · replace h := (if_pos c).symm.trans h
      exact eb_mm_shelf_156  h
    · replace h := (if_neg c).symm.trans h
      refine G.aload_n (i := 0) dX8_shelf_81 rfl rfl ?_
      refine G.aload_n (i := 0) dX8_shelf_82 rfl rfl ?_
      refine G.iload dX8_shelf_83 rfl ?_
      obtain ⟨v7, hv, h⟩ := bd h
      refine G.callV (e_mm_mixIn hv) cs_X8_shelf_X8_mixIn ck8 shM_0 rfl rfl (Nat.le_of_ble_eq_true rfl) q942 q944 q36 dX8_shelf_85 ?_
      obtain ⟨p8, hv, h⟩ := bd h
      refine G.callV (e_mm_taste hv) cs_X8_shelf_X8_taste ck8 shM_0 rfl rfl (Nat.le_of_ble_eq_true rfl) q1013 q1015 q46 dX8_shelf_88 ?_
      refine G.iload_n (i := 3) dX8_shelf_91 rfl rfl ?_
      refine G.icmp_ne 150 dX8_shelf_92 rfl (fun c => ?_) (fun c => ?_)
      · replace h := (if_neg c).symm.trans h
        exact eb_mm_shelf_150 ih h
      · replace h := (if_pos c).symm.trans h
        refine G.iload dX8_shelf_95 rfl ?_
        refine G.bipush dX8_shelf_97 kb_m5 ?_
        refine G.icmp_ne 107 dX8_shelf_99 rfl (fun c => ?_) (fun c => ?_)
        · replace h := (if_neg c).symm.trans h
          refine G.iload dX8_shelf_107 rfl ?_
          exact eb_mm_shelf_109 ih h
        · replace h := (if_pos c).symm.trans h
          refine G.iload dX8_shelf_102 rfl ?_
          refine G.goto 109 dX8_shelf_104 rfl ?_
          exact eb_mm_shelf_109 ih h
set_option maxRecDepth 100000 in
theorem eb_mm_shelf_49 {x2 : Int} {x3 : Int} {o1 : Option PV} {o4 : Option PV} {o5 : Option PV} {o6 : Option PV} {μ : Mem} {res : (Int × Mem)} (h : mm_shelf_49 x2 x3 μ = some res) : G shM l D ad ca YX8_shelf 49 [some (.inr 0), o1, some (.inl x2), some (.inl x3), o4, o5, o6] [] μ (some (.inl res.1)) res.2 := by
  rw [mm_shelf_49] at h
  refine G.iload_n (i := 3) dX8_shelf_49 rfl rfl ?_
  refine G.bipush dX8_shelf_50 kb_m5 ?_
  refine G.icmp_ne 58 dX8_shelf_52 rfl (fun c => ?_) (fun c => ?_)
  · replace h := (if_neg c).symm.trans h
    refine G.bipush dX8_shelf_58 kb_m5 ?_
    refine G.istore dX8_shelf_60 (Nat.le_of_ble_eq_true rfl) ?_
    refine G.bipush dX8_shelf_62 kb_m5 ?_
    refine G.istore dX8_shelf_64 (Nat.le_of_ble_eq_true rfl) ?_
    refine G.iconst dX8_shelf_66 ki_0 ?_
    refine G.istore dX8_shelf_67 (Nat.le_of_ble_eq_true rfl) ?_
    exact eb_mm_shelf_69  _ _ _ _ _ _ _ _ _ h
  · replace h := (if_pos c).symm.trans h
    refine G.bipush dX8_shelf_55 kb_m5 ?_
    cases h
    exact G.iret dX8_shelf_57 rfl
set_option maxRecDepth 100000 in
theorem eb_mm_shelf_25 : ∀ (n : Nat) (x1 : Int) (x2 : Int) (x3 : Int) (x4 : Int) (o5 : Option PV) (o6 : Option PV) (μ : Mem) (res : (Int × Mem)), mm_shelf_25 n x1 x2 x3 x4 μ = some res → G shM l D ad ca YX8_shelf 25 [some (.inr 0), some (.inl x1), some (.inl x2), some (.inl x3), some (.inl x4), o5, o6] [] μ (some (.inl res.1)) res.2 := by
  intro n
  induction n with
  | zero =>
    intro x1 x2 x3 x4 o5 o6 μ res h
    rw [mm_shelf_25] at h
    cases h
  | succ n ih =>
    intro x1 x2 x3 x4 o5 o6 μ res h
    rw [mm_shelf_25] at h
    refine G.iload dX8_shelf_25 rfl ?_
    refine G.iload_n (i := 1) dX8_shelf_27 rfl rfl ?_
    refine G.icmp_ge 49 dX8_shelf_28 rfl (fun c => ?_) (fun c => ?_)
    · replace h := (if_pos c).symm.trans h
      exact eb_mm_shelf_49  h
    · replace h := (if_neg c).symm.trans h
      refine G.iload_n (i := 3) dX8_shelf_31 rfl rfl ?_
      refine G.bipush dX8_shelf_32 kb_m5 ?_
      refine G.icmp_eq 49 dX8_shelf_34 rfl (fun c => ?_) (fun c => ?_)
      · replace h := (if_pos c).symm.trans h
        exact eb_mm_shelf_49  h
      · replace h := (if_neg c).symm.trans h
        refine G.aload_n (i := 0) dX8_shelf_37 rfl rfl ?_
        refine G.iload_n (i := 3) dX8_shelf_38 rfl rfl ?_
        obtain ⟨p14, hv, h⟩ := bd h
        refine G.callV (e_mm_nextShelf hv) cs_X8_shelf_X8_nextShelf ck8 shM_0 rfl rfl (Nat.le_of_ble_eq_true rfl) q1116 q1118 q57 dX8_shelf_39 ?_
        replace h := bnd_mp h
        refine G.istore_n (i := 3) dX8_shelf_42 rfl (Nat.le_of_ble_eq_true rfl) ?_
        replace h := bnd_mp h
        refine G.iinc dX8_shelf_43 rfl (Nat.le_of_ble_eq_true rfl) ?_
        refine G.goto 25 dX8_shelf_46 rfl ?_
        exact ih _ _ _ _ _ _ _ _ h
set_option maxRecDepth 100000 in
theorem e_mm_shelf {a1 : Int} {a2 : Int} {μ : Mem} {res : (Int × Mem)} (h : mm_shelf a1 a2 μ = some res) : GM shM l D ad ca YX8_shelf [.inr 0, .inl a1, .inl a2] μ (some (.inl res.1)) res.2 := by
  refine GM.of (L := [some (.inr 0), some (.inl a1), some (.inl a2), none, none, none, none]) (by decide +kernel) rfl (Nat.le_of_ble_eq_true rfl) ?_
  rw [mm_shelf] at h
  refine G.iload_n (i := 1) dX8_shelf_0 rfl rfl ?_
  refine G.if_lt 13 dX8_shelf_1 rfl (fun c => ?_) (fun c => ?_)
  · replace h := (if_pos c).symm.trans h
    exact eb_mm_shelf_13  h
  · replace h := (if_neg c).symm.trans h
    refine G.iload_n (i := 2) dX8_shelf_4 rfl rfl ?_
    refine G.iconst dX8_shelf_5 ki_0 ?_
    refine G.iconst dX8_shelf_6 ki_3 ?_
    obtain ⟨v1, hv, h⟩ := bd h
    refine G.callS (e_mm_in hv) cs_X8_shelf_X8_in rfl (Nat.le_of_ble_eq_true rfl) q904 q905 dX8_shelf_7 ?_
    refine G.if_ne 16 dX8_shelf_10 rfl (fun c => ?_) (fun c => ?_)
    · replace h := (if_neg c).symm.trans h
      refine G.aload_n (i := 0) dX8_shelf_16 rfl rfl ?_
      refine G.iconst dX8_shelf_17 ki_m1 ?_
      obtain ⟨p2, hv, h⟩ := bd h
      refine G.callV (e_mm_nextShelf hv) cs_X8_shelf_X8_nextShelf ck8 shM_0 rfl rfl (Nat.le_of_ble_eq_true rfl) q1116 q1118 q57 dX8_shelf_18 ?_
      replace h := bnd_mp h
      refine G.istore_n (i := 3) dX8_shelf_21 rfl (Nat.le_of_ble_eq_true rfl) ?_
      refine G.iconst dX8_shelf_22 ki_0 ?_
      refine G.istore dX8_shelf_23 (Nat.le_of_ble_eq_true rfl) ?_
      exact eb_mm_shelf_25  _ _ _ _ _ _ _ _ _ h
    · replace h := (if_pos c).symm.trans h
      exact eb_mm_shelf_13  h
set_option maxRecDepth 100000 in
theorem e_mm_throwAway {a1 : Int} {μ : Mem} {res : (Int × Mem)} (h : mm_throwAway a1 μ = some res) : GM shM l D ad ca YX8_throwAway [.inr 0, .inl a1] μ (some (.inl res.1)) res.2 := by
  refine GM.of (L := [some (.inr 0), some (.inl a1), none, none]) (by decide +kernel) rfl (Nat.le_of_ble_eq_true rfl) ?_
  rw [mm_throwAway] at h
  refine G.aload_n (i := 0) dX8_throwAway_0 rfl rfl ?_
  refine G.iload_n (i := 1) dX8_throwAway_1 rfl rfl ?_
  obtain ⟨v1, hv, h⟩ := bd h
  refine G.callV (e_mm_find hv) cs_X8_throwAway_X8_find ck8 shM_0 rfl rfl (Nat.le_of_ble_eq_true rfl) q934 q936 q34 dX8_throwAway_2 ?_
  refine G.istore_n (i := 2) dX8_throwAway_5 rfl (Nat.le_of_ble_eq_true rfl) ?_
  refine G.iload_n (i := 2) dX8_throwAway_6 rfl rfl ?_
  refine G.bipush dX8_throwAway_7 kb_m5 ?_
  refine G.icmp_ne 14 dX8_throwAway_9 rfl (fun c => ?_) (fun c => ?_)
  · replace h := (if_neg c).symm.trans h
    refine G.aload_n (i := 0) dX8_throwAway_14 rfl rfl ?_
    obtain ⟨μ2, hv, h⟩ := bd h
    refine G.callV (e_mm_putAside hv) cs_X8_throwAway_X8_putAside ck8 shM_0 rfl rfl (Nat.le_of_ble_eq_true rfl) q907 q909 q29 dX8_throwAway_15 ?_
    refine G.aload_n (i := 0) dX8_throwAway_18 rfl rfl ?_
    refine G.iload_n (i := 2) dX8_throwAway_19 rfl rfl ?_
    obtain ⟨v3, hv, h⟩ := bd h
    refine G.callV (e_mm_mixIn hv) cs_X8_throwAway_X8_mixIn ck8 shM_0 rfl rfl (Nat.le_of_ble_eq_true rfl) q942 q944 q36 dX8_throwAway_20 ?_
    obtain ⟨v4, hv, h⟩ := bd h
    refine G.callS (e_mm_units hv) cs_X8_throwAway_X8_units rfl (Nat.le_of_ble_eq_true rfl) q911 q912 dX8_throwAway_23 ?_
    refine G.istore_n (i := 3) dX8_throwAway_26 rfl (Nat.le_of_ble_eq_true rfl) ?_
    refine G.aload_n (i := 0) dX8_throwAway_27 rfl rfl ?_
    refine G.getR ck8 shM_0 0 rfl (by decide) q838 dX8_throwAway_28 ?_
    refine G.bipush dX8_throwAway_31 kb_55 ?_
    refine G.dup2 dX8_throwAway_33 ?_
    refine G.ialdc 55 shM_1 rfl (by decide) dX8_throwAway_34 ?_
    refine G.iload_n (i := 3) dX8_throwAway_35 rfl rfl ?_
    refine G.iadd dX8_throwAway_36 ?_
    replace h := bnd_mp h
    refine G.iastc 55 shM_1 rfl (by decide) dX8_throwAway_37 ?_
    refine G.aload_n (i := 0) dX8_throwAway_38 rfl rfl ?_
    refine G.iload_n (i := 2) dX8_throwAway_39 rfl rfl ?_
    obtain ⟨μ6, hv, h⟩ := bd h
    refine G.callV (e_mm_dropJar hv) cs_X8_throwAway_X8_dropJar ck8 shM_0 rfl rfl (Nat.le_of_ble_eq_true rfl) q961 q963 q38 dX8_throwAway_40 ?_
    refine G.aload_n (i := 0) dX8_throwAway_43 rfl rfl ?_
    refine G.iload_n (i := 3) dX8_throwAway_44 rfl rfl ?_
    obtain ⟨p7, hv, h⟩ := bd h
    refine G.callV (e_mm_act hv) cs_X8_throwAway_X8_act ck8 shM_0 rfl rfl (Nat.le_of_ble_eq_true rfl) q922 q924 q32 dX8_throwAway_45 ?_
    cases h
    exact G.iret dX8_throwAway_48 rfl
  · replace h := (if_pos c).symm.trans h
    refine G.iconst dX8_throwAway_12 ki_m1 ?_
    cases h
    exact G.iret dX8_throwAway_13 rfl
set_option maxRecDepth 100000 in
theorem eb_mm_together_24 {s0 : Int} {o1 : Option PV} {o2 : Option PV} {μ : Mem} {res : Int} (h : mm_together_24 s0 = some res) : G shM l D ad ca YX8_together 24 [some (.inr 0), o1, o2] [.inl s0] μ (some (.inl res)) μ := by
  rw [mm_together_24] at h
  cases h
  exact G.iret dX8_together_24 rfl
set_option maxRecDepth 100000 in
theorem eb_mm_together_22 {o1 : Option PV} {o2 : Option PV} {μ : Mem} {res : Int} (h : mm_together_22 = some res) : G shM l D ad ca YX8_together 22 [some (.inr 0), o1, o2] [] μ (some (.inl res)) μ := by
  rw [mm_together_22] at h
  refine G.bipush dX8_together_22 kb_m2 ?_
  exact eb_mm_together_24  h
set_option maxRecDepth 100000 in
theorem e_mm_together {a1 : Int} {a2 : Int} {μ : Mem} {res : Int} (h : mm_together a1 a2 = some res) : GM shM l D ad ca YX8_together [.inr 0, .inl a1, .inl a2] μ (some (.inl res)) μ := by
  refine GM.of (L := [some (.inr 0), some (.inl a1), some (.inl a2)]) (by decide +kernel) rfl (Nat.le_of_ble_eq_true rfl) ?_
  rw [mm_together] at h
  refine G.iload_n (i := 1) dX8_together_0 rfl rfl ?_
  obtain ⟨v1, hv, h⟩ := bd h
  refine G.callS (e_mm_isMix hv) cs_X8_together_X8_isMix rfl (Nat.le_of_ble_eq_true rfl) q901 q902 dX8_together_1 ?_
  refine G.if_eq 22 dX8_together_4 rfl (fun c => ?_) (fun c => ?_)
  · replace h := (if_pos c).symm.trans h
    exact eb_mm_together_22  h
  · replace h := (if_neg c).symm.trans h
    refine G.iload_n (i := 2) dX8_together_7 rfl rfl ?_
    obtain ⟨v2, hv, h⟩ := bd h
    refine G.callS (e_mm_isMix hv) cs_X8_together_X8_isMix rfl (Nat.le_of_ble_eq_true rfl) q901 q902 dX8_together_8 ?_
    refine G.if_eq 22 dX8_together_11 rfl (fun c => ?_) (fun c => ?_)
    · replace h := (if_pos c).symm.trans h
      exact eb_mm_together_22  h
    · replace h := (if_neg c).symm.trans h
      refine G.iload_n (i := 1) dX8_together_14 rfl rfl ?_
      refine G.iload_n (i := 2) dX8_together_15 rfl rfl ?_
      obtain ⟨v3, hv, h⟩ := bd h
      refine G.callS (e_mm_mixed hv) cs_X8_together_X8_mixed rfl (Nat.le_of_ble_eq_true rfl) q946 q947 dX8_together_16 ?_
      refine G.goto 24 dX8_together_19 rfl ?_
      exact eb_mm_together_24  h
set_option maxRecDepth 100000 in
theorem e_mm_type {a1 : Int} {μ : Mem} {res : (Int × Mem)} (h : mm_type a1 μ = some res) : GM shM l D ad ca YX8_type [.inr 0, .inl a1] μ (some (.inl res.1)) res.2 := by
  refine GM.of (L := [some (.inr 0), some (.inl a1)]) (by decide +kernel) rfl (Nat.le_of_ble_eq_true rfl) ?_
  rw [mm_type] at h
  refine G.aload_n (i := 0) dX8_type_0 rfl rfl ?_
  refine G.getI ck8 shM_0 7 rfl (by decide) q845 dX8_type_1 ?_
  refine G.bipush dX8_type_4 kb_60 ?_
  refine G.icmp_ne 12 dX8_type_6 rfl (fun c => ?_) (fun c => ?_)
  · replace h := (if_neg c).symm.trans h
    refine G.aload_n (i := 0) dX8_type_12 rfl rfl ?_
    refine G.getR ck8 shM_0 6 rfl (by decide) q844 dX8_type_13 ?_
    refine G.aload_n (i := 0) dX8_type_16 rfl rfl ?_
    refine G.getI ck8 shM_0 7 rfl (by decide) q845 dX8_type_17 ?_
    refine G.iload_n (i := 1) dX8_type_20 rfl rfl ?_
    obtain ⟨μ1, hv, h⟩ := bd h
    obtain ⟨hb, rfl⟩ := aput_some hv
    refine G.iast shM_5 hb dX8_type_21 ?_
    refine G.aload_n (i := 0) dX8_type_22 rfl rfl ?_
    refine G.dup dX8_type_23 ?_
    refine G.getI ck8 shM_0 7 rfl (by decide) q845 dX8_type_24 ?_
    refine G.iconst dX8_type_27 ki_1 ?_
    refine G.iadd dX8_type_28 ?_
    replace h := bnd_mp h
    refine G.putI ck8 shM_0 7 rfl (by decide) q845 rfl rfl rfl dX8_type_29 ?_
    refine G.aload_n (i := 0) dX8_type_32 rfl rfl ?_
    refine G.getI ck8 shM_0 7 rfl (by decide) q845 dX8_type_33 ?_
    cases h
    exact G.iret dX8_type_36 rfl
  · replace h := (if_pos c).symm.trans h
    refine G.bipush dX8_type_9 kb_m3 ?_
    cases h
    exact G.iret dX8_type_11 rfl
set_option maxRecDepth 100000 in
theorem eb_mm_undo_59 {o1 : Option PV} {μ : Mem} {res : (Int × Mem)} (h : mm_undo_59 μ = some res) : G shM l D ad ca YX8_undo 59 [some (.inr 0), o1] [] μ (some (.inl res.1)) res.2 := by
  rw [mm_undo_59] at h
  refine G.aload_n (i := 0) dX8_undo_59 rfl rfl ?_
  refine G.getI ck8 shM_0 3 rfl (by decide) q841 dX8_undo_60 ?_
  cases h
  exact G.iret dX8_undo_63 rfl
set_option maxRecDepth 100000 in
theorem eb_mm_undo_27 : ∀ (n : Nat) (x1 : Int) (μ : Mem) (res : (Int × Mem)), mm_undo_27 n x1 μ = some res → G shM l D ad ca YX8_undo 27 [some (.inr 0), some (.inl x1)] [] μ (some (.inl res.1)) res.2 := by
  intro n
  induction n with
  | zero =>
    intro x1 μ res h
    rw [mm_undo_27] at h
    cases h
  | succ n ih =>
    intro x1 μ res h
    rw [mm_undo_27] at h
    refine G.iload_n (i := 1) dX8_undo_27 rfl rfl ?_
    refine G.bipush dX8_undo_28 kb_60 ?_
    refine G.icmp_ge 59 dX8_undo_30 rfl (fun c => ?_) (fun c => ?_)
    · replace h := (if_pos c).symm.trans h
      exact eb_mm_undo_59  h
    · replace h := (if_neg c).symm.trans h
      refine G.aload_n (i := 0) dX8_undo_33 rfl rfl ?_
      refine G.getR ck8 shM_0 0 rfl (by decide) q838 dX8_undo_34 ?_
      refine G.iload_n (i := 1) dX8_undo_37 rfl rfl ?_
      refine G.aload_n (i := 0) dX8_undo_38 rfl rfl ?_
      refine G.getR ck8 shM_0 2 rfl (by decide) q840 dX8_undo_39 ?_
      refine G.bipush dX8_undo_42 kb_60 ?_
      refine G.aload_n (i := 0) dX8_undo_44 rfl rfl ?_
      refine G.getI ck8 shM_0 3 rfl (by decide) q841 dX8_undo_45 ?_
      refine G.imul dX8_undo_48 ?_
      refine G.iload_n (i := 1) dX8_undo_49 rfl rfl ?_
      refine G.iadd dX8_undo_50 ?_
      obtain ⟨v3, hv, h⟩ := bd h
      obtain ⟨hb, rfl⟩ := aget_some hv
      refine G.iald shM_3 hb dX8_undo_51 ?_
      obtain ⟨μ4, hv, h⟩ := bd h
      obtain ⟨hb, rfl⟩ := aput_some hv
      refine G.iast shM_1 hb dX8_undo_52 ?_
      replace h := bnd_mp h
      refine G.iinc dX8_undo_53 rfl (Nat.le_of_ble_eq_true rfl) ?_
      refine G.goto 27 dX8_undo_56 rfl ?_
      exact ih _ _ _ h
set_option maxRecDepth 100000 in
theorem e_mm_undo {μ : Mem} {res : (Int × Mem)} (h : mm_undo μ = some res) : GM shM l D ad ca YX8_undo [.inr 0] μ (some (.inl res.1)) res.2 := by
  refine GM.of (L := [some (.inr 0), none]) (by decide +kernel) rfl (Nat.le_of_ble_eq_true rfl) ?_
  rw [mm_undo] at h
  refine G.aload_n (i := 0) dX8_undo_0 rfl rfl ?_
  refine G.getI ck8 shM_0 3 rfl (by decide) q841 dX8_undo_1 ?_
  refine G.if_ne 10 dX8_undo_4 rfl (fun c => ?_) (fun c => ?_)
  · replace h := (if_neg c).symm.trans h
    refine G.aload_n (i := 0) dX8_undo_10 rfl rfl ?_
    refine G.dup dX8_undo_11 ?_
    refine G.getI ck8 shM_0 3 rfl (by decide) q841 dX8_undo_12 ?_
    refine G.iconst dX8_undo_15 ki_1 ?_
    refine G.isub dX8_undo_16 ?_
    replace h := bnd_mp h
    refine G.putI ck8 shM_0 3 rfl (by decide) q841 rfl rfl rfl dX8_undo_17 ?_
    refine G.aload_n (i := 0) dX8_undo_20 rfl rfl ?_
    refine G.iconst dX8_undo_21 ki_0 ?_
    replace h := bnd_mp h
    refine G.putI ck8 shM_0 8 rfl (by decide) q846 rfl rfl rfl dX8_undo_22 ?_
    refine G.iconst dX8_undo_25 ki_0 ?_
    refine G.istore_n (i := 1) dX8_undo_26 rfl (Nat.le_of_ble_eq_true rfl) ?_
    exact eb_mm_undo_27  _ _ _ _ h
  · replace h := (if_pos c).symm.trans h
    refine G.bipush dX8_undo_7 kb_m5 ?_
    cases h
    exact G.iret dX8_undo_9 rfl
set_option maxRecDepth 100000 in
theorem eb_mm_waiting_34 {s0 : Int} {o1 : Option PV} {μ : Mem} {res : Int} (h : mm_waiting_34 s0 μ = some res) : G shM l D ad ca YX8_waiting 34 [some (.inr 0), o1] [.inl s0] μ (some (.inl res)) μ := by
  rw [mm_waiting_34] at h
  cases h
  exact G.iret dX8_waiting_34 rfl
set_option maxRecDepth 100000 in
theorem e_mm_waiting {a1 : Int} {μ : Mem} {res : Int} (h : mm_waiting a1 μ = some res) : GM shM l D ad ca YX8_waiting [.inr 0, .inl a1] μ (some (.inl res)) μ := by
  refine GM.of (L := [some (.inr 0), some (.inl a1)]) (by decide +kernel) rfl (Nat.le_of_ble_eq_true rfl) ?_
  rw [mm_waiting] at h
  refine G.iload_n (i := 1) dX8_waiting_0 rfl rfl ?_
  refine G.if_ge 9 dX8_waiting_1 rfl (fun c => ?_) (fun c => ?_)
  · replace h := (if_pos c).symm.trans h
    refine G.iload_n (i := 1) dX8_waiting_9 rfl rfl ?_
    refine G.aload_n (i := 0) dX8_waiting_10 rfl rfl ?_
    refine G.getR ck8 shM_0 0 rfl (by decide) q838 dX8_waiting_11 ?_
    refine G.bipush dX8_waiting_14 kb_43 ?_
    refine G.ialdc 43 shM_1 rfl (by decide) dX8_waiting_16 ?_
    refine G.icmp_ge 32 dX8_waiting_17 rfl (fun c => ?_) (fun c => ?_)
    · replace h := (if_pos c).symm.trans h
      refine G.bipush dX8_waiting_32 kb_m5 ?_
      exact eb_mm_waiting_34  h
    · replace h := (if_neg c).symm.trans h
      refine G.aload_n (i := 0) dX8_waiting_20 rfl rfl ?_
      refine G.getR ck8 shM_0 0 rfl (by decide) q838 dX8_waiting_21 ?_
      refine G.bipush dX8_waiting_24 kb_44 ?_
      refine G.iload_n (i := 1) dX8_waiting_26 rfl rfl ?_
      refine G.iadd dX8_waiting_27 ?_
      obtain ⟨v1, hv, h⟩ := bd h
      obtain ⟨hb, rfl⟩ := aget_some hv
      refine G.iald shM_1 hb dX8_waiting_28 ?_
      refine G.goto 34 dX8_waiting_29 rfl ?_
      exact eb_mm_waiting_34  h
  · replace h := (if_neg c).symm.trans h
    refine G.bipush dX8_waiting_4 kb_m2 ?_
    refine G.goto 34 dX8_waiting_6 rfl ?_
    exact eb_mm_waiting_34  h
set_option maxRecDepth 100000 in
theorem e_mm_want {a1 : Int} {μ : Mem} {res : (Int × Mem)} (h : mm_want a1 μ = some res) : GM shM l D ad ca YX8_want [.inr 0, .inl a1] μ (some (.inl res.1)) res.2 := by
  refine GM.of (L := [some (.inr 0), some (.inl a1)]) (by decide +kernel) rfl (Nat.le_of_ble_eq_true rfl) ?_
  rw [mm_want] at h
  refine G.iload_n (i := 1) dX8_want_0 rfl rfl ?_
  obtain ⟨v1, hv, h⟩ := bd h
  refine G.callS (e_mm_isMix hv) cs_X8_want_X8_isMix rfl (Nat.le_of_ble_eq_true rfl) q901 q902 dX8_want_1 ?_
  refine G.if_ne 10 dX8_want_4 rfl (fun c => ?_) (fun c => ?_)
  · replace h := (if_neg c).symm.trans h
    refine G.aload_n (i := 0) dX8_want_10 rfl rfl ?_
    obtain ⟨μ2, hv, h⟩ := bd h
    refine G.callV (e_mm_putAside hv) cs_X8_want_X8_putAside ck8 shM_0 rfl rfl (Nat.le_of_ble_eq_true rfl) q907 q909 q29 dX8_want_11 ?_
    refine G.aload_n (i := 0) dX8_want_14 rfl rfl ?_
    refine G.aload_n (i := 0) dX8_want_15 rfl rfl ?_
    refine G.iload_n (i := 1) dX8_want_16 rfl rfl ?_
    obtain ⟨p3, hv, h⟩ := bd h
    refine G.callV (e_mm_wants hv) cs_X8_want_X8_wants ck8 shM_0 rfl rfl (Nat.le_of_ble_eq_true rfl) q1001 q1003 q44 dX8_want_17 ?_
    obtain ⟨p4, hv, h⟩ := bd h
    refine G.callV (e_mm_act hv) cs_X8_want_X8_act ck8 shM_0 rfl rfl (Nat.le_of_ble_eq_true rfl) q922 q924 q32 dX8_want_20 ?_
    cases h
    exact G.iret dX8_want_23 rfl
  · replace h := (if_pos c).symm.trans h
    refine G.bipush dX8_want_7 kb_m2 ?_
    cases h
    exact G.iret dX8_want_9 rfl
end DD
