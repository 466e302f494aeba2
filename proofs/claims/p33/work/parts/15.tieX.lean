section DD
variable {l : Launch} {D : va_G} {ad : Nat → Nat} {ca : Nat → ClassId}
set_option maxRecDepth 100000 in
theorem eb_xx_isMix_16 {s0 : Int} {o0 : Option PV} {μ : Mem} {res : Int} (h : xx_isMix_16 s0 = some res) : G shX l D ad ca YX7_isMix 16 [o0] [.inl s0] μ (some (.inl res)) μ := by
  rw [xx_isMix_16] at h
  obtain ⟨hz, h⟩ := ite_yn h
  cases h
  exact G.zret .boolean dX7_isMix_16 rfl (nar_z hz)
set_option maxRecDepth 100000 in
theorem eb_xx_isMix_15 {o0 : Option PV} {μ : Mem} {res : Int} (h : xx_isMix_15 = some res) : G shX l D ad ca YX7_isMix 15 [o0] [] μ (some (.inl res)) μ := by
  rw [xx_isMix_15] at h
  refine G.iconst dX7_isMix_15 ki_0 ?_
  exact eb_xx_isMix_16  h
set_option maxRecDepth 100000 in
theorem e_xx_isMix {a1 : Int} {μ : Mem} {res : Int} (h : xx_isMix a1 = some res) : GM shX l D ad ca YX7_isMix [.inl a1] μ (some (.inl res)) μ := by
  refine GM.of (L := [some (.inl a1)]) (by decide +kernel) rfl (Nat.le_of_ble_eq_true rfl) ?_
  rw [xx_isMix] at h
  refine G.iload_n (i := 0) dX7_isMix_0 rfl rfl ?_
  refine G.if_lt 15 dX7_isMix_1 rfl (fun c => ?_) (fun c => ?_)
  · replace h := (if_pos c).symm.trans h
    exact eb_xx_isMix_15  h
  · replace h := (if_neg c).symm.trans h
    refine G.iload_n (i := 0) dX7_isMix_4 rfl rfl ?_
    refine G.sipush dX7_isMix_5 ks_6561 ?_
    refine G.icmp_ge 15 dX7_isMix_8 rfl (fun c => ?_) (fun c => ?_)
    · replace h := (if_pos c).symm.trans h
      exact eb_xx_isMix_15  h
    · replace h := (if_neg c).symm.trans h
      refine G.iconst dX7_isMix_11 ki_1 ?_
      refine G.goto 16 dX7_isMix_12 rfl ?_
      exact eb_xx_isMix_16  h
set_option maxRecDepth 100000 in
theorem eb_xt_isLearned_46 {o2 : Option PV} {μ : Mem} {res : Int} (h : xt_isLearned_46 μ = some res) : G shX l D ad ca YX5_isLearned 46 [some (.inr 3), some (.inr 10), o2] [] μ (some (.inl res)) μ := by
  rw [xt_isLearned_46] at h
  refine G.iconst dX5_isLearned_46 ki_1 ?_
  cases h
  exact G.zret .boolean dX5_isLearned_47 rfl rfl
set_option maxRecDepth 100000 in
theorem eb_xt_isLearned_38 {o2 : Option PV} {μ : Mem} {res : Int} (h : xt_isLearned_38 μ = some res) : G shX l D ad ca YX5_isLearned 38 [some (.inr 3), some (.inr 10), o2] [] μ (some (.inl res)) μ := by
  rw [xt_isLearned_38] at h
  refine G.iconst dX5_isLearned_38 ki_0 ?_
  cases h
  exact G.zret .boolean dX5_isLearned_39 rfl rfl
set_option maxRecDepth 100000 in
theorem eb_xt_isLearned_15 : ∀ (n : Nat) (x2 : Int) (μ : Mem) (res : Int), xt_isLearned_15 n x2 μ = some res → G shX l D ad ca YX5_isLearned 15 [some (.inr 3), some (.inr 10), some (.inl x2)] [] μ (some (.inl res)) μ := by
  intro n
  induction n with
  | zero =>
    intro x2 μ res h
    rw [xt_isLearned_15] at h
    cases h
  | succ n ih =>
    intro x2 μ res h
    rw [xt_isLearned_15] at h
    refine G.iload_n (i := 2) dX5_isLearned_15 rfl rfl ?_
    refine G.aload_n (i := 0) dX5_isLearned_16 rfl rfl ?_
    refine G.getI ck5 shX_3 2 rfl (by decide) q60 dX5_isLearned_17 ?_
    refine G.icmp_ge 46 dX5_isLearned_20 rfl (fun c => ?_) (fun c => ?_)
    · replace h := (if_pos c).symm.trans h
      exact eb_xt_isLearned_46  h
    · replace h := (if_neg c).symm.trans h
      refine G.aload_n (i := 1) dX5_isLearned_23 rfl rfl ?_
      refine G.getRN ck4 shX_10 4 rfl (by decide) q107 dX5_isLearned_24 ?_
      refine G.iload_n (i := 2) dX5_isLearned_27 rfl rfl ?_
      obtain ⟨v1, hv, h⟩ := bd h
      obtain ⟨hb, rfl⟩ := aget_some hv
      refine G.iald shX_13 hb dX5_isLearned_28 ?_
      refine G.aload_n (i := 0) dX5_isLearned_29 rfl rfl ?_
      refine G.getR ck5 shX_3 1 rfl (by decide) q59 dX5_isLearned_30 ?_
      refine G.iload_n (i := 2) dX5_isLearned_33 rfl rfl ?_
      obtain ⟨v2, hv, h⟩ := bd h
      obtain ⟨hb, rfl⟩ := aget_some hv
      refine G.iald shX_4 hb dX5_isLearned_34 ?_
      refine G.icmp_eq 40 dX5_isLearned_35 rfl (fun c => ?_) (fun c => ?_)
      · replace h := (if_pos c).symm.trans h
        replace h := bnd_mp h
        refine G.iinc dX5_isLearned_40 rfl (Nat.le_of_ble_eq_true rfl) ?_
        refine G.goto 15 dX5_isLearned_43 rfl ?_
        exact ih _ _ _ h
      · replace h := (if_neg c).symm.trans h
        exact eb_xt_isLearned_38  h
set_option maxRecDepth 100000 in
theorem e_xt_isLearned {μ : Mem} {res : Int} (h : xt_isLearned μ = some res) : GM shX l D ad ca YX5_isLearned [.inr 3, .inr 10] μ (some (.inl res)) μ := by
  refine GM.of (L := [some (.inr 3), some (.inr 10), none]) (by decide +kernel) rfl (Nat.le_of_ble_eq_true rfl) ?_
  rw [xt_isLearned] at h
  refine G.aload_n (i := 1) dX5_isLearned_0 rfl rfl ?_
  refine G.getINN ck4 shX_10 5 rfl (by decide) q111 dX5_isLearned_1 ?_
  refine G.aload_n (i := 0) dX5_isLearned_4 rfl rfl ?_
  refine G.getI ck5 shX_3 2 rfl (by decide) q60 dX5_isLearned_5 ?_
  refine G.icmp_eq 13 dX5_isLearned_8 rfl (fun c => ?_) (fun c => ?_)
  · replace h := (if_pos c).symm.trans h
    refine G.iconst dX5_isLearned_13 ki_0 ?_
    refine G.istore_n (i := 2) dX5_isLearned_14 rfl (Nat.le_of_ble_eq_true rfl) ?_
    exact eb_xt_isLearned_15  _ _ _ _ h
  · replace h := (if_neg c).symm.trans h
    refine G.iconst dX5_isLearned_11 ki_0 ?_
    cases h
    exact G.zret .boolean dX5_isLearned_12 rfl rfl
set_option maxRecDepth 100000 in
theorem eb_jf_fill_20 {o1 : Option PV} {o2 : Option PV} {o3 : Option PV} {μ : Mem} {res : Mem} (h : jf_fill_20 μ = some res) : G shX l D ad ca YJ7_fill_53178 20 [some (.inr 5), o1, o2, o3] [] μ none res := by
  rw [jf_fill_20] at h
  cases h
  exact G.vret dJ7_fill_53178_20 rfl
set_option maxRecDepth 100000 in
theorem eb_jf_fill_5 : ∀ (n : Nat) (x1 : Int) (x2 : Int) (x3 : Int) (μ : Mem) (res : Mem), jf_fill_5 n x1 x2 x3 μ = some res → G shX l D ad ca YJ7_fill_53178 5 [some (.inr 5), some (.inl x1), some (.inl x2), some (.inl x3)] [] μ none res := by
  intro n
  induction n with
  | zero =>
    intro x1 x2 x3 μ res h
    rw [jf_fill_5] at h
    cases h
  | succ n ih =>
    intro x1 x2 x3 μ res h
    rw [jf_fill_5] at h
    refine G.iload_n (i := 2) dJ7_fill_53178_5 rfl rfl ?_
    refine G.iload_n (i := 3) dJ7_fill_53178_6 rfl rfl ?_
    refine G.icmp_ge 20 dJ7_fill_53178_7 rfl (fun c => ?_) (fun c => ?_)
    · replace h := (if_pos c).symm.trans h
      exact eb_jf_fill_20  h
    · replace h := (if_neg c).symm.trans h
      refine G.aload_n (i := 0) dJ7_fill_53178_10 rfl rfl ?_
      refine G.iload_n (i := 2) dJ7_fill_53178_11 rfl rfl ?_
      refine G.iload_n (i := 1) dJ7_fill_53178_12 rfl rfl ?_
      obtain ⟨μ1, hv, h⟩ := bd h
      obtain ⟨hb, rfl⟩ := aput_some hv
      refine G.iast shX_5 hb dJ7_fill_53178_13 ?_
      replace h := bnd_mp h
      refine G.iinc dJ7_fill_53178_14 rfl (Nat.le_of_ble_eq_true rfl) ?_
      refine G.goto 5 dJ7_fill_53178_17 rfl ?_
      exact ih _ _ _ _ _ h
set_option maxRecDepth 100000 in
theorem e_jf_fill {a1 : Int} {μ : Mem} {res : Mem} (h : jf_fill a1 μ = some res) : GM shX l D ad ca YJ7_fill_53178 [.inr 5, .inl a1] μ none res := by
  refine GM.of (L := [some (.inr 5), some (.inl a1), none, none]) (by decide +kernel) rfl (Nat.le_of_ble_eq_true rfl) ?_
  rw [jf_fill] at h
  refine G.iconst dJ7_fill_53178_0 ki_0 ?_
  refine G.istore_n (i := 2) dJ7_fill_53178_1 rfl (Nat.le_of_ble_eq_true rfl) ?_
  refine G.aload_n (i := 0) dJ7_fill_53178_2 rfl rfl ?_
  refine G.alen shX_5 rfl ki_8 dJ7_fill_53178_3 ?_
  refine G.istore_n (i := 3) dJ7_fill_53178_4 rfl (Nat.le_of_ble_eq_true rfl) ?_
  exact eb_jf_fill_5  _ _ _ _ _ _ h
set_option maxRecDepth 100000 in
theorem eb_xt_highestSpice_22 {x1 : Int} {o0 : Option PV} {μ : Mem} {res : Int} (h : xt_highestSpice_22 x1 = some res) : G shX l D ad ca YX5_highestSpice 22 [o0, some (.inl x1)] [] μ (some (.inl res)) μ := by
  rw [xt_highestSpice_22] at h
  refine G.iload_n (i := 1) dX5_highestSpice_22 rfl rfl ?_
  cases h
  exact G.iret dX5_highestSpice_23 rfl
set_option maxRecDepth 100000 in
theorem eb_xt_highestSpice_3 : ∀ (n : Nat) (x0 : Int) (x1 : Int) (μ : Mem) (res : Int), xt_highestSpice_3 n x0 x1 = some res → G shX l D ad ca YX5_highestSpice 3 [some (.inl x0), some (.inl x1)] [] μ (some (.inl res)) μ := by
  intro n
  induction n with
  | zero =>
    intro x0 x1 μ res h
    rw [xt_highestSpice_3] at h
    cases h
  | succ n ih =>
    intro x0 x1 μ res h
    rw [xt_highestSpice_3] at h
    refine G.iload_n (i := 1) dX5_highestSpice_3 rfl rfl ?_
    refine G.if_le 22 dX5_highestSpice_4 rfl (fun c => ?_) (fun c => ?_)
    · replace h := (if_pos c).symm.trans h
      exact eb_xt_highestSpice_22  h
    · replace h := (if_neg c).symm.trans h
      refine G.iload_n (i := 0) dX5_highestSpice_7 rfl rfl ?_
      refine G.powN dX5_highestSpice_8 q294 ?_
      refine G.iload_n (i := 1) dX5_highestSpice_11 rfl rfl ?_
      obtain ⟨v1, hv, h⟩ := bd h
      obtain ⟨hb, rfl⟩ := pget_some hv
      refine G.powld hb dX5_highestSpice_12 ?_
      refine G.icmp_ge 22 dX5_highestSpice_13 rfl (fun c => ?_) (fun c => ?_)
      · replace h := (if_pos c).symm.trans h
        exact eb_xt_highestSpice_22  h
      · replace h := (if_neg c).symm.trans h
        replace h := bnd_mp h
        refine G.iinc dX5_highestSpice_16 rfl (Nat.le_of_ble_eq_true rfl) ?_
        refine G.goto 3 dX5_highestSpice_19 rfl ?_
        exact ih _ _ _ _ h
set_option maxRecDepth 100000 in
theorem e_xt_highestSpice {a1 : Int} {μ : Mem} {res : Int} (h : xt_highestSpice a1 = some res) : GM shX l D ad ca YX5_highestSpice [.inl a1] μ (some (.inl res)) μ := by
  refine GM.of (L := [some (.inl a1), none]) (by decide +kernel) rfl (Nat.le_of_ble_eq_true rfl) ?_
  rw [xt_highestSpice] at h
  refine G.bipush dX5_highestSpice_0 kb_7 ?_
  refine G.istore_n (i := 1) dX5_highestSpice_2 rfl (Nat.le_of_ble_eq_true rfl) ?_
  exact eb_xt_highestSpice_3  _ _ _ _ _ h
set_option maxRecDepth 100000 in
theorem e_xj_join {a1 : Int} {a2 : Int} {μ : Mem} {res : Int} (h : xj_join a1 a2 μ = some res) : GM shX l D ad ca YX3_join [.inr 1, .inl a1, .inl a2] μ (some (.inl res)) μ := by
  refine GM.of (L := [some (.inr 1), some (.inl a1), some (.inl a2), none, none]) (by decide +kernel) rfl (Nat.le_of_ble_eq_true rfl) ?_
  rw [xj_join] at h
  refine G.aload_n (i := 0) dX3_join_0 rfl rfl ?_
  refine G.getR ck3 shX_1 0 rfl (by decide) q47 dX3_join_1 ?_
  refine G.iload_n (i := 1) dX3_join_4 rfl rfl ?_
  refine G.bipush dX3_join_5 kb_81 ?_
  refine G.idiv dX3_join_7 (by decide) ?_
  refine G.bipush dX3_join_8 kb_81 ?_
  refine G.imul dX3_join_10 ?_
  refine G.iload_n (i := 2) dX3_join_11 rfl rfl ?_
  refine G.bipush dX3_join_12 kb_81 ?_
  refine G.idiv dX3_join_14 (by decide) ?_
  refine G.iadd dX3_join_15 ?_
  obtain ⟨v1, hv, h⟩ := bd h
  obtain ⟨hb, rfl⟩ := aget_some hv
  refine G.bald shX_2 hb dX3_join_16 ?_
  refine G.istore_n (i := 3) dX3_join_17 rfl (Nat.le_of_ble_eq_true rfl) ?_
  refine G.aload_n (i := 0) dX3_join_18 rfl rfl ?_
  refine G.getR ck3 shX_1 0 rfl (by decide) q47 dX3_join_19 ?_
  refine G.iload_n (i := 1) dX3_join_22 rfl rfl ?_
  refine G.bipush dX3_join_23 kb_81 ?_
  refine G.irem dX3_join_25 (by decide) ?_
  refine G.bipush dX3_join_26 kb_81 ?_
  refine G.imul dX3_join_28 ?_
  refine G.iload_n (i := 2) dX3_join_29 rfl rfl ?_
  refine G.bipush dX3_join_30 kb_81 ?_
  refine G.irem dX3_join_32 (by decide) ?_
  refine G.iadd dX3_join_33 ?_
  obtain ⟨v2, hv, h⟩ := bd h
  obtain ⟨hb, rfl⟩ := aget_some hv
  refine G.bald shX_2 hb dX3_join_34 ?_
  refine G.istore dX3_join_35 (Nat.le_of_ble_eq_true rfl) ?_
  refine G.iload_n (i := 3) dX3_join_37 rfl rfl ?_
  refine G.bipush dX3_join_38 kb_81 ?_
  refine G.imul dX3_join_40 ?_
  refine G.iload dX3_join_41 rfl ?_
  refine G.iadd dX3_join_43 ?_
  cases h
  exact G.iret dX3_join_44 rfl
set_option maxRecDepth 100000 in
theorem e_xj_twice {a1 : Int} {μ : Mem} {res : Int} (h : xj_twice a1 μ = some res) : GM shX l D ad ca YX3_twice [.inr 1, .inl a1] μ (some (.inl res)) μ := by
  refine GM.of (L := [some (.inr 1), some (.inl a1)]) (by decide +kernel) rfl (Nat.le_of_ble_eq_true rfl) ?_
  rw [xj_twice] at h
  refine G.aload_n (i := 0) dX3_twice_0 rfl rfl ?_
  refine G.iload_n (i := 1) dX3_twice_1 rfl rfl ?_
  refine G.iload_n (i := 1) dX3_twice_2 rfl rfl ?_
  obtain ⟨v1, hv, h⟩ := bd h
  refine G.callV (e_xj_join hv) cs_X3_twice_X3_join ck3 shX_1 rfl rfl (Nat.le_of_ble_eq_true rfl) q307 q297 q298 dX3_twice_3 ?_
  cases h
  exact G.iret dX3_twice_6 rfl
set_option maxRecDepth 100000 in
theorem eb_xt_reduced_77 {x3 : Int} {o2 : Option PV} {o4 : Option PV} {o5 : Option PV} {μ : Mem} {res : Int} (h : xt_reduced_77 x3 μ = some res) : G shX l D ad ca YX5_reduced 77 [some (.inr 3), some (.inr 5), o2, some (.inl x3), o4, o5] [] μ (some (.inl res)) μ := by
  rw [xt_reduced_77] at h
  refine G.iload_n (i := 3) dX5_reduced_77 rfl rfl ?_
  cases h
  exact G.iret dX5_reduced_78 rfl
set_option maxRecDepth 100000 in
theorem eb_xt_reduced_71 {K6 : Int → Int → Mem → Option Int} (hK6 : ∀ (x3 : Int) (x4 : Int) (o2 : Option PV) (o5 : Option PV) (μ : Mem) (res : Int), K6 x3 x4 μ = some res → G shX l D ad ca YX5_reduced 6 [some (.inr 3), some (.inr 5), o2, some (.inl x3), some (.inl x4), o5] [] μ (some (.inl res)) μ) {x3 : Int} {x4 : Int} {o2 : Option PV} {o5 : Option PV} {μ : Mem} {res : Int} (h : xt_reduced_71 K6 x3 x4 μ = some res) : G shX l D ad ca YX5_reduced 71 [some (.inr 3), some (.inr 5), o2, some (.inl x3), some (.inl x4), o5] [] μ (some (.inl res)) μ := by
  rw [xt_reduced_71] at h
  replace h := bnd_mp h
  refine G.iinc dX5_reduced_71 rfl (Nat.le_of_ble_eq_true rfl) ?_
  refine G.goto 6 dX5_reduced_74 rfl ?_
  exact hK6 _ _ _ _ _ _ h
set_option maxRecDepth 100000 in
theorem eb_xt_reduced_52 {K6 : Int → Int → Mem → Option Int} (hK6 : ∀ (x3 : Int) (x4 : Int) (o2 : Option PV) (o5 : Option PV) (μ : Mem) (res : Int), K6 x3 x4 μ = some res → G shX l D ad ca YX5_reduced 6 [some (.inr 3), some (.inr 5), o2, some (.inl x3), some (.inl x4), o5] [] μ (some (.inl res)) μ) {x3 : Int} {x4 : Int} {x5 : Int} {o2 : Option PV} {μ : Mem} {res : Int} (h : xt_reduced_52 K6 x3 x4 x5 μ = some res) : G shX l D ad ca YX5_reduced 52 [some (.inr 3), some (.inr 5), o2, some (.inl x3), some (.inl x4), some (.inl x5)] [] μ (some (.inl res)) μ := by
  rw [xt_reduced_52] at h
  refine G.iload dX5_reduced_52 rfl ?_
  refine G.iconst dX5_reduced_54 ki_1 ?_
  refine G.icmp_ne 71 dX5_reduced_55 rfl (fun c => ?_) (fun c => ?_)
  · replace h := (if_neg c).symm.trans h
    exact eb_xt_reduced_71 hK6 h
  · replace h := (if_pos c).symm.trans h
    refine G.aload_n (i := 0) dX5_reduced_58 rfl rfl ?_
    refine G.getR ck5 shX_3 0 rfl (by decide) q58 dX5_reduced_59 ?_
    refine G.iload_n (i := 3) dX5_reduced_62 rfl rfl ?_
    refine G.aload_n (i := 1) dX5_reduced_63 rfl rfl ?_
    refine G.iload dX5_reduced_64 rfl ?_
    obtain ⟨v4, hv, h⟩ := bd h
    obtain ⟨hb, rfl⟩ := aget_some hv
    refine G.iald shX_5 hb dX5_reduced_66 ?_
    obtain ⟨v5, hv, h⟩ := bd h
    refine G.callV (e_xj_join hv) cs_X5_reduced_X3_join ck3 shX_1 rfl rfl (Nat.le_of_ble_eq_true rfl) q296 q297 q298 dX5_reduced_67 ?_
    refine G.istore_n (i := 3) dX5_reduced_70 rfl (Nat.le_of_ble_eq_true rfl) ?_
    exact eb_xt_reduced_71 hK6 h
set_option maxRecDepth 100000 in
theorem eb_xt_reduced_32 {K6 : Int → Int → Mem → Option Int} (hK6 : ∀ (x3 : Int) (x4 : Int) (o2 : Option PV) (o5 : Option PV) (μ : Mem) (res : Int), K6 x3 x4 μ = some res → G shX l D ad ca YX5_reduced 6 [some (.inr 3), some (.inr 5), o2, some (.inl x3), some (.inl x4), o5] [] μ (some (.inl res)) μ) {x3 : Int} {x4 : Int} {s0 : Int} {o2 : Option PV} {o5 : Option PV} {μ : Mem} {res : Int} (h : xt_reduced_32 K6 x3 x4 s0 μ = some res) : G shX l D ad ca YX5_reduced 32 [some (.inr 3), some (.inr 5), o2, some (.inl x3), some (.inl x4), o5] [.inl s0] μ (some (.inl res)) μ := by
  rw [xt_reduced_32] at h
  refine G.istore dX5_reduced_32 (Nat.le_of_ble_eq_true rfl) ?_
  refine G.iload dX5_reduced_34 rfl ?_
  refine G.if_le 52 dX5_reduced_36 rfl (fun c => ?_) (fun c => ?_)
  · replace h := (if_pos c).symm.trans h
    exact eb_xt_reduced_52 hK6 h
  · replace h := (if_neg c).symm.trans h
    refine G.aload_n (i := 0) dX5_reduced_39 rfl rfl ?_
    refine G.getR ck5 shX_3 0 rfl (by decide) q58 dX5_reduced_40 ?_
    refine G.iload_n (i := 3) dX5_reduced_43 rfl rfl ?_
    refine G.aload_n (i := 1) dX5_reduced_44 rfl rfl ?_
    refine G.iload dX5_reduced_45 rfl ?_
    obtain ⟨v6, hv, h⟩ := bd h
    obtain ⟨hb, rfl⟩ := aget_some hv
    refine G.iald shX_5 hb dX5_reduced_47 ?_
    obtain ⟨v7, hv, h⟩ := bd h
    refine G.callV (e_xj_join hv) cs_X5_reduced_X3_join ck3 shX_1 rfl rfl (Nat.le_of_ble_eq_true rfl) q296 q297 q298 dX5_reduced_48 ?_
    refine G.istore_n (i := 3) dX5_reduced_51 rfl (Nat.le_of_ble_eq_true rfl) ?_
    exact eb_xt_reduced_52 hK6 h
set_option maxRecDepth 100000 in
theorem eb_xt_reduced_6 : ∀ (n : Nat) (x3 : Int) (x4 : Int) (o2 : Option PV) (o5 : Option PV) (μ : Mem) (res : Int), xt_reduced_6 n x3 x4 μ = some res → G shX l D ad ca YX5_reduced 6 [some (.inr 3), some (.inr 5), o2, some (.inl x3), some (.inl x4), o5] [] μ (some (.inl res)) μ := by
  intro n
  induction n with
  | zero =>
    intro x3 x4 o2 o5 μ res h
    rw [xt_reduced_6] at h
    cases h
  | succ n ih =>
    intro x3 x4 o2 o5 μ res h
    rw [xt_reduced_6] at h
    refine G.iload dX5_reduced_6 rfl ?_
    refine G.if_lt 77 dX5_reduced_8 rfl (fun c => ?_) (fun c => ?_)
    · replace h := (if_pos c).symm.trans h
      exact eb_xt_reduced_77  h
    · replace h := (if_neg c).symm.trans h
      refine G.aload_n (i := 1) dX5_reduced_11 rfl rfl ?_
      refine G.iload dX5_reduced_12 rfl ?_
      obtain ⟨v1, hv, h⟩ := bd h
      obtain ⟨hb, rfl⟩ := aget_some hv
      refine G.iald shX_5 hb dX5_reduced_14 ?_
      refine G.if_ne 22 dX5_reduced_15 rfl (fun c => ?_) (fun c => ?_)
      · replace h := (if_neg c).symm.trans h
        refine G.iload_n (i := 3) dX5_reduced_22 rfl rfl ?_
        refine G.powN dX5_reduced_23 q294 ?_
        refine G.iload dX5_reduced_26 rfl ?_
        obtain ⟨v2, hv, h⟩ := bd h
        obtain ⟨hb, rfl⟩ := pget_some hv
        refine G.powld hb dX5_reduced_28 ?_
        obtain ⟨hz, h⟩ := ite_nn h
        refine G.idiv dX5_reduced_29 hz ?_
        refine G.iconst dX5_reduced_30 ki_3 ?_
        refine G.irem dX5_reduced_31 (by decide) ?_
        exact eb_xt_reduced_32 ih h
      · replace h := (if_pos c).symm.trans h
        refine G.iconst dX5_reduced_18 ki_0 ?_
        refine G.goto 32 dX5_reduced_19 rfl ?_
        exact eb_xt_reduced_32 ih h
set_option maxRecDepth 100000 in
theorem e_xt_reduced {a1 : Int} {μ : Mem} {res : Int} (h : xt_reduced a1 μ = some res) : GM shX l D ad ca YX5_reduced [.inr 3, .inr 5, .inl a1] μ (some (.inl res)) μ := by
  refine GM.of (L := [some (.inr 3), some (.inr 5), some (.inl a1), none, none, none]) (by decide +kernel) rfl (Nat.le_of_ble_eq_true rfl) ?_
  rw [xt_reduced] at h
  refine G.iload_n (i := 2) dX5_reduced_0 rfl rfl ?_
  refine G.istore_n (i := 3) dX5_reduced_1 rfl (Nat.le_of_ble_eq_true rfl) ?_
  refine G.bipush dX5_reduced_2 kb_7 ?_
  refine G.istore dX5_reduced_4 (Nat.le_of_ble_eq_true rfl) ?_
  exact eb_xt_reduced_6  _ _ _ _ _ _ _ h
set_option maxRecDepth 100000 in
theorem eb_xt_findLeads_107 {x3 : Int} {o2 : Option PV} {o4 : Option PV} {o5 : Option PV} {o6 : Option PV} {o7 : Option PV} {μ : Mem} {res : (Int × Mem)} (h : xt_findLeads_107 x3 μ = some res) : G shX l D ad ca YX5_findLeads 107 [some (.inr 3), some (.inr 5), o2, some (.inl x3), o4, o5, o6, o7] [] μ (some (.inl res.1)) res.2 := by
  rw [xt_findLeads_107] at h
  refine G.iload_n (i := 3) dX5_findLeads_107 rfl rfl ?_
  cases h
  exact G.iret dX5_findLeads_108 rfl
set_option maxRecDepth 100000 in
theorem eb_xt_findLeads_101 {K10 : Int → Int → Int → Mem → Option (Int × Mem)} (hK10 : ∀ (x2 : Int) (x3 : Int) (x4 : Int) (o5 : Option PV) (o6 : Option PV) (o7 : Option PV) (μ : Mem) (res : (Int × Mem)), K10 x2 x3 x4 μ = some res → G shX l D ad ca YX5_findLeads 10 [some (.inr 3), some (.inr 5), some (.inl x2), some (.inl x3), some (.inl x4), o5, o6, o7] [] μ (some (.inl res.1)) res.2) {x2 : Int} {x3 : Int} {x4 : Int} {o5 : Option PV} {o6 : Option PV} {o7 : Option PV} {μ : Mem} {res : (Int × Mem)} (h : xt_findLeads_101 K10 x2 x3 x4 μ = some res) : G shX l D ad ca YX5_findLeads 101 [some (.inr 3), some (.inr 5), some (.inl x2), some (.inl x3), some (.inl x4), o5, o6, o7] [] μ (some (.inl res.1)) res.2 := by
  rw [xt_findLeads_101] at h
  replace h := bnd_mp h
  refine G.iinc dX5_findLeads_101 rfl (Nat.le_of_ble_eq_true rfl) ?_
  refine G.goto 10 dX5_findLeads_104 rfl ?_
  exact hK10 _ _ _ _ _ _ _ _ h
set_option maxRecDepth 100000 in
theorem eb_xt_findLeads_97 {K10 : Int → Int → Int → Mem → Option (Int × Mem)} (hK10 : ∀ (x2 : Int) (x3 : Int) (x4 : Int) (o5 : Option PV) (o6 : Option PV) (o7 : Option PV) (μ : Mem) (res : (Int × Mem)), K10 x2 x3 x4 μ = some res → G shX l D ad ca YX5_findLeads 10 [some (.inr 3), some (.inr 5), some (.inl x2), some (.inl x3), some (.inl x4), o5, o6, o7] [] μ (some (.inl res.1)) res.2) {x2 : Int} {x3 : Int} {x4 : Int} {s1 : Int} {s2 : Int} {o5 : Option PV} {o6 : Option PV} {o7 : Option PV} {μ : Mem} {res : (Int × Mem)} (h : xt_findLeads_97 K10 x2 x3 x4 s1 s2 μ = some res) : G shX l D ad ca YX5_findLeads 97 [some (.inr 3), some (.inr 5), some (.inl x2), some (.inl x3), some (.inl x4), o5, o6, o7] [.inl s2, .inl s1, .inr 5] μ (some (.inl res.1)) res.2 := by
  rw [xt_findLeads_97] at h
  obtain ⟨μ8, hv, h⟩ := bd h
  obtain ⟨hb, rfl⟩ := aput_some hv
  refine G.iast shX_5 hb dX5_findLeads_97 ?_
  replace h := bnd_mp h
  refine G.iinc dX5_findLeads_98 rfl (Nat.le_of_ble_eq_true rfl) ?_
  exact eb_xt_findLeads_101 hK10 h
set_option maxRecDepth 100000 in
theorem eb_xt_findLeads_73 {K10 : Int → Int → Int → Mem → Option (Int × Mem)} (hK10 : ∀ (x2 : Int) (x3 : Int) (x4 : Int) (o5 : Option PV) (o6 : Option PV) (o7 : Option PV) (μ : Mem) (res : (Int × Mem)), K10 x2 x3 x4 μ = some res → G shX l D ad ca YX5_findLeads 10 [some (.inr 3), some (.inr 5), some (.inl x2), some (.inl x3), some (.inl x4), o5, o6, o7] [] μ (some (.inl res.1)) res.2) {x2 : Int} {x3 : Int} {x4 : Int} {x5 : Int} {x6 : Int} {s0 : Int} {o7 : Option PV} {μ : Mem} {res : (Int × Mem)} (h : xt_findLeads_73 K10 x2 x3 x4 x5 x6 s0 μ = some res) : G shX l D ad ca YX5_findLeads 73 [some (.inr 3), some (.inr 5), some (.inl x2), some (.inl x3), some (.inl x4), some (.inl x5), some (.inl x6), o7] [.inl s0] μ (some (.inl res.1)) res.2 := by
  rw [xt_findLeads_73] at h
  refine G.istore dX5_findLeads_73 (Nat.le_of_ble_eq_true rfl) ?_
  refine G.aload_n (i := 1) dX5_findLeads_75 rfl rfl ?_
  refine G.iload dX5_findLeads_76 rfl ?_
  refine G.iload dX5_findLeads_78 rfl ?_
  refine G.if_eq 88 dX5_findLeads_80 rfl (fun c => ?_) (fun c => ?_)
  · replace h := (if_pos c).symm.trans h
    refine G.aload_n (i := 0) dX5_findLeads_88 rfl rfl ?_
    refine G.getR ck5 shX_3 0 rfl (by decide) q58 dX5_findLeads_89 ?_
    refine G.iload dX5_findLeads_92 rfl ?_
    obtain ⟨v7, hv, h⟩ := bd h
    refine G.callV (e_xj_twice hv) cs_X5_findLeads_X3_twice ck3 shX_1 rfl rfl (Nat.le_of_ble_eq_true rfl) q303 q304 q305 dX5_findLeads_94 ?_
    exact eb_xt_findLeads_97 hK10 h
  · replace h := (if_neg c).symm.trans h
    refine G.iload dX5_findLeads_83 rfl ?_
    refine G.goto 97 dX5_findLeads_85 rfl ?_
    exact eb_xt_findLeads_97 hK10 h
set_option maxRecDepth 100000 in
theorem eb_xt_findLeads_41 {K10 : Int → Int → Int → Mem → Option (Int × Mem)} (hK10 : ∀ (x2 : Int) (x3 : Int) (x4 : Int) (o5 : Option PV) (o6 : Option PV) (o7 : Option PV) (μ : Mem) (res : (Int × Mem)), K10 x2 x3 x4 μ = some res → G shX l D ad ca YX5_findLeads 10 [some (.inr 3), some (.inr 5), some (.inl x2), some (.inl x3), some (.inl x4), o5, o6, o7] [] μ (some (.inl res.1)) res.2) {x2 : Int} {x3 : Int} {x4 : Int} {s0 : Int} {o5 : Option PV} {o6 : Option PV} {o7 : Option PV} {μ : Mem} {res : (Int × Mem)} (h : xt_findLeads_41 K10 x2 x3 x4 s0 μ = some res) : G shX l D ad ca YX5_findLeads 41 [some (.inr 3), some (.inr 5), some (.inl x2), some (.inl x3), some (.inl x4), o5, o6, o7] [.inl s0] μ (some (.inl res.1)) res.2 := by
  rw [xt_findLeads_41] at h
  refine G.istore dX5_findLeads_41 (Nat.le_of_ble_eq_true rfl) ?_
  refine G.iload dX5_findLeads_43 rfl ?_
  refine G.if_eq 101 dX5_findLeads_45 rfl (fun c => ?_) (fun c => ?_)
  · replace h := (if_pos c).symm.trans h
    exact eb_xt_findLeads_101 hK10 h
  · replace h := (if_neg c).symm.trans h
    refine G.iload dX5_findLeads_48 rfl ?_
    obtain ⟨v5, hv, h⟩ := bd h
    refine G.callS (e_xt_highestSpice hv) cs_X5_findLeads_X5_highestSpice rfl (Nat.le_of_ble_eq_true rfl) q300 q301 dX5_findLeads_50 ?_
    refine G.istore dX5_findLeads_53 (Nat.le_of_ble_eq_true rfl) ?_
    refine G.iload dX5_findLeads_55 rfl ?_
    refine G.powN dX5_findLeads_57 q294 ?_
    refine G.iload dX5_findLeads_60 rfl ?_
    obtain ⟨v6, hv, h⟩ := bd h
    obtain ⟨hb, rfl⟩ := pget_some hv
    refine G.powld hb dX5_findLeads_62 ?_
    obtain ⟨hz, h⟩ := ite_nn h
    refine G.idiv dX5_findLeads_63 hz ?_
    refine G.iconst dX5_findLeads_64 ki_1 ?_
    refine G.icmp_ne 72 dX5_findLeads_65 rfl (fun c => ?_) (fun c => ?_)
    · replace h := (if_neg c).symm.trans h
      refine G.iconst dX5_findLeads_72 ki_0 ?_
      exact eb_xt_findLeads_73 hK10 h
    · replace h := (if_pos c).symm.trans h
      refine G.iconst dX5_findLeads_68 ki_1 ?_
      refine G.goto 73 dX5_findLeads_69 rfl ?_
      exact eb_xt_findLeads_73 hK10 h
set_option maxRecDepth 100000 in
theorem eb_xt_findLeads_10 : ∀ (n : Nat) (x2 : Int) (x3 : Int) (x4 : Int) (o5 : Option PV) (o6 : Option PV) (o7 : Option PV) (μ : Mem) (res : (Int × Mem)), xt_findLeads_10 n x2 x3 x4 μ = some res → G shX l D ad ca YX5_findLeads 10 [some (.inr 3), some (.inr 5), some (.inl x2), some (.inl x3), some (.inl x4), o5, o6, o7] [] μ (some (.inl res.1)) res.2 := by
  intro n
  induction n with
  | zero =>
    intro x2 x3 x4 o5 o6 o7 μ res h
    rw [xt_findLeads_10] at h
    cases h
  | succ n ih =>
    intro x2 x3 x4 o5 o6 o7 μ res h
    rw [xt_findLeads_10] at h
    refine G.iload dX5_findLeads_10 rfl ?_
    refine G.aload_n (i := 0) dX5_findLeads_12 rfl rfl ?_
    refine G.getI ck5 shX_3 2 rfl (by decide) q60 dX5_findLeads_13 ?_
    refine G.icmp_ge 107 dX5_findLeads_16 rfl (fun c => ?_) (fun c => ?_)
    · replace h := (if_pos c).symm.trans h
      exact eb_xt_findLeads_107  h
    · replace h := (if_neg c).symm.trans h
      refine G.iload dX5_findLeads_19 rfl ?_
      refine G.iload_n (i := 2) dX5_findLeads_21 rfl rfl ?_
      refine G.icmp_ne 29 dX5_findLeads_22 rfl (fun c => ?_) (fun c => ?_)
      · replace h := (if_neg c).symm.trans h
        refine G.aload_n (i := 0) dX5_findLeads_29 rfl rfl ?_
        refine G.aload_n (i := 1) dX5_findLeads_30 rfl rfl ?_
        refine G.aload_n (i := 0) dX5_findLeads_31 rfl rfl ?_
        refine G.getR ck5 shX_3 1 rfl (by decide) q59 dX5_findLeads_32 ?_
        refine G.iload dX5_findLeads_35 rfl ?_
        obtain ⟨v2, hv, h⟩ := bd h
        obtain ⟨hb, rfl⟩ := aget_some hv
        refine G.iald shX_4 hb dX5_findLeads_37 ?_
        obtain ⟨v3, hv, h⟩ := bd h
        refine G.callV (e_xt_reduced hv) cs_X5_findLeads_X5_reduced ck5 shX_3 rfl rfl (Nat.le_of_ble_eq_true rfl) q290 q292 q3 dX5_findLeads_38 ?_
        exact eb_xt_findLeads_41 ih h
      · replace h := (if_pos c).symm.trans h
        refine G.iconst dX5_findLeads_25 ki_0 ?_
        refine G.goto 41 dX5_findLeads_26 rfl ?_
        exact eb_xt_findLeads_41 ih h
set_option maxRecDepth 100000 in
theorem e_xt_findLeads {a1 : Int} {μ : Mem} {res : (Int × Mem)} (h : xt_findLeads a1 μ = some res) : GM shX l D ad ca YX5_findLeads [.inr 3, .inr 5, .inl a1] μ (some (.inl res.1)) res.2 := by
  refine GM.of (L := [some (.inr 3), some (.inr 5), some (.inl a1), none, none, none, none, none]) (by decide +kernel) rfl (Nat.le_of_ble_eq_true rfl) ?_
  rw [xt_findLeads] at h
  refine G.aload_n (i := 1) dX5_findLeads_0 rfl rfl ?_
  refine G.iconst dX5_findLeads_1 ki_0 ?_
  obtain ⟨μ1, hv, h⟩ := bd h
  refine G.callS (e_jf_fill hv) cs_X5_findLeads_J7_fill_53178 rfl (Nat.le_of_ble_eq_true rfl) q287 q288 dX5_findLeads_2 ?_
  refine G.iconst dX5_findLeads_5 ki_0 ?_
  refine G.istore_n (i := 3) dX5_findLeads_6 rfl (Nat.le_of_ble_eq_true rfl) ?_
  refine G.iconst dX5_findLeads_7 ki_0 ?_
  refine G.istore dX5_findLeads_8 (Nat.le_of_ble_eq_true rfl) ?_
  exact eb_xt_findLeads_10  _ _ _ _ _ _ _ _ _ h
set_option maxRecDepth 100000 in
theorem eb_xt_collectParts_40 {o1 : Option PV} {o2 : Option PV} {μ : Mem} {res : Mem} (h : xt_collectParts_40 μ = some res) : G shX l D ad ca YX5_collectParts 40 [some (.inr 3), o1, o2] [] μ none res := by
  rw [xt_collectParts_40] at h
  cases h
  exact G.vret dX5_collectParts_40 rfl
set_option maxRecDepth 100000 in
theorem eb_xt_collectParts_34 {K4 : Int → Int → Mem → Option Mem} (hK4 : ∀ (x1 : Int) (x2 : Int) (μ : Mem) (res : Mem), K4 x1 x2 μ = some res → G shX l D ad ca YX5_collectParts 4 [some (.inr 3), some (.inl x1), some (.inl x2)] [] μ none res) {x1 : Int} {x2 : Int} {μ : Mem} {res : Mem} (h : xt_collectParts_34 K4 x1 x2 μ = some res) : G shX l D ad ca YX5_collectParts 34 [some (.inr 3), some (.inl x1), some (.inl x2)] [] μ none res := by
  rw [xt_collectParts_34] at h
  replace h := bnd_mp h
  refine G.iinc dX5_collectParts_34 rfl (Nat.le_of_ble_eq_true rfl) ?_
  refine G.goto 4 dX5_collectParts_37 rfl ?_
  exact hK4 _ _ _ _ h
set_option maxRecDepth 100000 in
theorem eb_xt_collectParts_4 : ∀ (n : Nat) (x1 : Int) (x2 : Int) (μ : Mem) (res : Mem), xt_collectParts_4 n x1 x2 μ = some res → G shX l D ad ca YX5_collectParts 4 [some (.inr 3), some (.inl x1), some (.inl x2)] [] μ none res := by
  intro n
  induction n with
  | zero =>
    intro x1 x2 μ res h
    rw [xt_collectParts_4] at h
    cases h
  | succ n ih =>
    intro x1 x2 μ res h
    rw [xt_collectParts_4] at h
    refine G.iload_n (i := 2) dX5_collectParts_4 rfl rfl ?_
    refine G.bipush dX5_collectParts_5 kb_8 ?_
    refine G.icmp_ge 40 dX5_collectParts_7 rfl (fun c => ?_) (fun c => ?_)
    · replace h := (if_pos c).symm.trans h
      exact eb_xt_collectParts_40  h
    · replace h := (if_neg c).symm.trans h
      refine G.aload_n (i := 0) dX5_collectParts_10 rfl rfl ?_
      refine G.getR ck5 shX_3 4 rfl (by decide) q63 dX5_collectParts_11 ?_
      refine G.iload_n (i := 2) dX5_collectParts_14 rfl rfl ?_
      obtain ⟨v1, hv, h⟩ := bd h
      obtain ⟨hb, rfl⟩ := aget_some hv
      refine G.iald shX_5 hb dX5_collectParts_15 ?_
      refine G.if_eq 34 dX5_collectParts_16 rfl (fun c => ?_) (fun c => ?_)
      · replace h := (if_pos c).symm.trans h
        exact eb_xt_collectParts_34 ih h
      · replace h := (if_neg c).symm.trans h
        refine G.aload_n (i := 0) dX5_collectParts_19 rfl rfl ?_
        refine G.getR ck5 shX_3 6 rfl (by decide) q65 dX5_collectParts_20 ?_
        refine G.iload_n (i := 1) dX5_collectParts_23 rfl rfl ?_
        refine G.aload_n (i := 0) dX5_collectParts_24 rfl rfl ?_
        refine G.getR ck5 shX_3 4 rfl (by decide) q63 dX5_collectParts_25 ?_
        refine G.iload_n (i := 2) dX5_collectParts_28 rfl rfl ?_
        obtain ⟨v3, hv, h⟩ := bd h
        obtain ⟨hb, rfl⟩ := aget_some hv
        refine G.iald shX_5 hb dX5_collectParts_29 ?_
        obtain ⟨μ4, hv, h⟩ := bd h
        obtain ⟨hb, rfl⟩ := aput_some hv
        refine G.iast shX_7 hb dX5_collectParts_30 ?_
        replace h := bnd_mp h
        refine G.iinc dX5_collectParts_31 rfl (Nat.le_of_ble_eq_true rfl) ?_
        exact eb_xt_collectParts_34 ih h
set_option maxRecDepth 100000 in
theorem e_xt_collectParts {μ : Mem} {res : Mem} (h : xt_collectParts μ = some res) : GM shX l D ad ca YX5_collectParts [.inr 3] μ none res := by
  refine GM.of (L := [some (.inr 3), none, none]) (by decide +kernel) rfl (Nat.le_of_ble_eq_true rfl) ?_
  rw [xt_collectParts] at h
  refine G.iconst dX5_collectParts_0 ki_0 ?_
  refine G.istore_n (i := 1) dX5_collectParts_1 rfl (Nat.le_of_ble_eq_true rfl) ?_
  refine G.iconst dX5_collectParts_2 ki_0 ?_
  refine G.istore_n (i := 2) dX5_collectParts_3 rfl (Nat.le_of_ble_eq_true rfl) ?_
  exact eb_xt_collectParts_4  _ _ _ _ _ h
set_option maxRecDepth 100000 in
theorem e_xt_learn {μ : Mem} {res : Mem} (h : xt_learn μ = some res) : GM shX l D ad ca YX5_learn [.inr 3, .inr 10] μ none res := by
  refine GM.of (L := [some (.inr 3), some (.inr 10)]) (by decide +kernel) rfl (Nat.le_of_ble_eq_true rfl) ?_
  rw [xt_learn] at h
  refine G.aload_n (i := 0) dX5_learn_0 rfl rfl ?_
  refine G.aload_n (i := 1) dX5_learn_1 rfl rfl ?_
  obtain ⟨v1, hv, h⟩ := bd h
  refine G.callV (e_xt_isLearned hv) cs_X5_learn_X5_isLearned ck5 shX_3 rfl rfl (Nat.le_of_ble_eq_true rfl) q276 q278 q1 dX5_learn_2 ?_
  refine G.if_eq 9 dX5_learn_5 rfl (fun c => ?_) (fun c => ?_)
  · replace h := (if_pos c).symm.trans h
    refine G.aload_n (i := 0) dX5_learn_9 rfl rfl ?_
    refine G.aload_n (i := 1) dX5_learn_10 rfl rfl ?_
    refine G.getINN ck4 shX_10 5 rfl (by decide) q111 dX5_learn_11 ?_
    replace h := bnd_mp h
    refine G.putI ck5 shX_3 2 rfl (by decide) q60 rfl rfl rfl dX5_learn_14 ?_
    refine G.aload_n (i := 1) dX5_learn_17 rfl rfl ?_
    refine G.getRN ck4 shX_10 4 rfl (by decide) q107 dX5_learn_18 ?_
    refine G.iconst dX5_learn_21 ki_0 ?_
    refine G.aload_n (i := 0) dX5_learn_22 rfl rfl ?_
    refine G.getR ck5 shX_3 1 rfl (by decide) q59 dX5_learn_23 ?_
    refine G.iconst dX5_learn_26 ki_0 ?_
    refine G.aload_n (i := 0) dX5_learn_27 rfl rfl ?_
    refine G.getI ck5 shX_3 2 rfl (by decide) q60 dX5_learn_28 ?_
    obtain ⟨μ3, hv, h⟩ := bd h
    obtain ⟨⟨a1, a2, a3, a4, a5⟩, rfl⟩ := acopy_some hv
    refine G.copy q280 q282 q281 q29 shX_13 shX_4 a1 a2 a3 a4 a5 (by decide) (by decide) dX5_learn_31 ?_
    refine G.aload_n (i := 0) dX5_learn_34 rfl rfl ?_
    refine G.aload_n (i := 0) dX5_learn_35 rfl rfl ?_
    refine G.aload_n (i := 0) dX5_learn_36 rfl rfl ?_
    refine G.getR ck5 shX_3 4 rfl (by decide) q63 dX5_learn_37 ?_
    refine G.iconst dX5_learn_40 ki_m1 ?_
    obtain ⟨p4, hv, h⟩ := bd h
    refine G.callV (e_xt_findLeads hv) cs_X5_learn_X5_findLeads ck5 shX_3 rfl rfl (Nat.le_of_ble_eq_true rfl) q283 q285 q2 dX5_learn_41 ?_
    replace h := bnd_mp h
    refine G.putI ck5 shX_3 3 rfl (by decide) q61 rfl rfl rfl dX5_learn_44 ?_
    refine G.aload_n (i := 0) dX5_learn_47 rfl rfl ?_
    obtain ⟨μ6, hv, h⟩ := bd h
    refine G.callV (e_xt_collectParts hv) cs_X5_learn_X5_collectParts ck5 shX_3 rfl rfl (Nat.le_of_ble_eq_true rfl) q308 q310 q4 dX5_learn_48 ?_
    cases h
    exact G.vret dX5_learn_51 rfl
  · replace h := (if_neg c).symm.trans h
    cases h
    exact G.vret dX5_learn_8 rfl
set_option maxRecDepth 100000 in
theorem e_xt_leastLike {a1 : Int} {μ : Mem} {res : Int} (h : xt_leastLike a1 μ = some res) : GM shX l D ad ca YX5_leastLike [.inr 3, .inl a1] μ (some (.inl res)) μ := by
  refine GM.of (L := [some (.inr 3), some (.inl a1)]) (by decide +kernel) rfl (Nat.le_of_ble_eq_true rfl) ?_
  rw [xt_leastLike] at h
  refine G.aload_n (i := 0) dX5_leastLike_0 rfl rfl ?_
  refine G.aload_n (i := 0) dX5_leastLike_1 rfl rfl ?_
  refine G.getR ck5 shX_3 4 rfl (by decide) q63 dX5_leastLike_2 ?_
  refine G.iload_n (i := 1) dX5_leastLike_5 rfl rfl ?_
  obtain ⟨v1, hv, h⟩ := bd h
  refine G.callV (e_xt_reduced hv) cs_X5_leastLike_X5_reduced ck5 shX_3 rfl rfl (Nat.le_of_ble_eq_true rfl) q290 q292 q3 dX5_leastLike_6 ?_
  cases h
  exact G.iret dX5_leastLike_9 rfl
set_option maxRecDepth 100000 in
theorem e_xx_tasteOf {a1 : Int} {μ : Mem} {res : (Int × Mem)} (h : xx_tasteOf a1 μ = some res) : GM shX l D ad ca YX7_tasteOf [.inr 0, .inl a1] μ (some (.inl res.1)) res.2 := by
  refine GM.of (L := [some (.inr 0), some (.inl a1)]) (by decide +kernel) rfl (Nat.le_of_ble_eq_true rfl) ?_
  rw [xx_tasteOf] at h
  refine G.aload_n (i := 0) dX7_tasteOf_0 rfl rfl ?_
  refine G.getR ck7 shX_0 1 rfl (by decide) q237 dX7_tasteOf_1 ?_
  refine G.aload_n (i := 0) dX7_tasteOf_4 rfl rfl ?_
  refine G.getR ck7 shX_0 2 rfl (by decide) q238 dX7_tasteOf_5 ?_
  obtain ⟨μ1, hv, h⟩ := bd h
  refine G.callV (e_xt_learn hv) cs_X7_tasteOf_X5_learn ck5 shX_3 rfl rfl (Nat.le_of_ble_eq_true rfl) q272 q273 q274 dX7_tasteOf_8 ?_
  refine G.aload_n (i := 0) dX7_tasteOf_11 rfl rfl ?_
  refine G.getR ck7 shX_0 1 rfl (by decide) q237 dX7_tasteOf_12 ?_
  refine G.iload_n (i := 1) dX7_tasteOf_15 rfl rfl ?_
  obtain ⟨v2, hv, h⟩ := bd h
  refine G.callV (e_xt_leastLike hv) cs_X7_tasteOf_X5_leastLike ck5 shX_3 rfl rfl (Nat.le_of_ble_eq_true rfl) q321 q322 q323 dX7_tasteOf_16 ?_
  cases h
  exact G.iret dX7_tasteOf_19 rfl
set_option maxRecDepth 100000 in
theorem eb_xt_nextLike_30 {x1 : Int} {x3 : Int} {o2 : Option PV} {o4 : Option PV} {μ : Mem} {res : Int} (h : xt_nextLike_30 x1 x3 μ = some res) : G shX l D ad ca YX5_nextLike 30 [some (.inr 3), some (.inl x1), o2, some (.inl x3), o4] [] μ (some (.inl res)) μ := by
  rw [xt_nextLike_30] at h
  refine G.aload_n (i := 0) dX5_nextLike_30 rfl rfl ?_
  refine G.getR ck5 shX_3 0 rfl (by decide) q58 dX5_nextLike_31 ?_
  refine G.iload_n (i := 1) dX5_nextLike_34 rfl rfl ?_
  refine G.aload_n (i := 0) dX5_nextLike_35 rfl rfl ?_
  refine G.getR ck5 shX_3 6 rfl (by decide) q65 dX5_nextLike_36 ?_
  refine G.iload_n (i := 3) dX5_nextLike_39 rfl rfl ?_
  obtain ⟨v1, hv, h⟩ := bd h
  obtain ⟨hb, rfl⟩ := aget_some hv
  refine G.iald shX_7 hb dX5_nextLike_40 ?_
  obtain ⟨v2, hv, h⟩ := bd h
  refine G.callV (e_xj_join hv) cs_X5_nextLike_X3_join ck3 shX_1 rfl rfl (Nat.le_of_ble_eq_true rfl) q296 q297 q298 dX5_nextLike_41 ?_
  cases h
  exact G.iret dX5_nextLike_44 rfl
set_option maxRecDepth 100000 in
theorem eb_xt_nextLike_5 : ∀ (n : Nat) (x1 : Int) (x3 : Int) (x4 : Int) (o2 : Option PV) (μ : Mem) (res : Int), xt_nextLike_5 n x1 x3 x4 μ = some res → G shX l D ad ca YX5_nextLike 5 [some (.inr 3), some (.inl x1), o2, some (.inl x3), some (.inl x4)] [] μ (some (.inl res)) μ := by
  intro n
  induction n with
  | zero =>
    intro x1 x3 x4 o2 μ res h
    rw [xt_nextLike_5] at h
    cases h
  | succ n ih =>
    intro x1 x3 x4 o2 μ res h
    rw [xt_nextLike_5] at h
    refine G.iload_n (i := 3) dX5_nextLike_5 rfl rfl ?_
    refine G.bipush dX5_nextLike_6 kb_7 ?_
    refine G.icmp_ge 30 dX5_nextLike_8 rfl (fun c => ?_) (fun c => ?_)
    · replace h := (if_pos c).symm.trans h
      exact eb_xt_nextLike_30  h
    · replace h := (if_neg c).symm.trans h
      refine G.iload dX5_nextLike_11 rfl ?_
      refine G.iconst dX5_nextLike_13 ki_3 ?_
      refine G.irem dX5_nextLike_14 (by decide) ?_
      refine G.if_ne 30 dX5_nextLike_15 rfl (fun c => ?_) (fun c => ?_)
      · replace h := (if_neg c).symm.trans h
        exact eb_xt_nextLike_30  h
      · replace h := (if_pos c).symm.trans h
        refine G.iload dX5_nextLike_18 rfl ?_
        refine G.iconst dX5_nextLike_20 ki_3 ?_
        refine G.idiv dX5_nextLike_21 (by decide) ?_
        replace h := bnd_mp h
        refine G.istore dX5_nextLike_22 (Nat.le_of_ble_eq_true rfl) ?_
        replace h := bnd_mp h
        refine G.iinc dX5_nextLike_24 rfl (Nat.le_of_ble_eq_true rfl) ?_
        refine G.goto 5 dX5_nextLike_27 rfl ?_
        exact ih _ _ _ _ _ _ h
set_option maxRecDepth 100000 in
theorem e_xt_nextLike {a1 : Int} {a2 : Int} {μ : Mem} {res : Int} (h : xt_nextLike a1 a2 μ = some res) : GM shX l D ad ca YX5_nextLike [.inr 3, .inl a1, .inl a2] μ (some (.inl res)) μ := by
  refine GM.of (L := [some (.inr 3), some (.inl a1), some (.inl a2), none, none]) (by decide +kernel) rfl (Nat.le_of_ble_eq_true rfl) ?_
  rw [xt_nextLike] at h
  refine G.iconst dX5_nextLike_0 ki_0 ?_
  refine G.istore_n (i := 3) dX5_nextLike_1 rfl (Nat.le_of_ble_eq_true rfl) ?_
  refine G.iload_n (i := 2) dX5_nextLike_2 rfl rfl ?_
  refine G.istore dX5_nextLike_3 (Nat.le_of_ble_eq_true rfl) ?_
  exact eb_xt_nextLike_5  _ _ _ _ _ _ _ h
set_option maxRecDepth 100000 in
theorem eb_xt_someBlandLeads_47 {s0 : Int} {o1 : Option PV} {o2 : Option PV} {o3 : Option PV} {o4 : Option PV} {μ : Mem} {res : Int} (h : xt_someBlandLeads_47 s0 μ = some res) : G shX l D ad ca YX5_someBlandLeads 47 [some (.inr 3), o1, o2, o3, o4] [.inl s0] μ (some (.inl res)) μ := by
  rw [xt_someBlandLeads_47] at h
  obtain ⟨hz, h⟩ := ite_yn h
  cases h
  exact G.zret .boolean dX5_someBlandLeads_47 rfl (nar_z hz)
set_option maxRecDepth 100000 in
theorem eb_xt_someBlandLeads_37 {x2 : Int} {x3 : Int} {o1 : Option PV} {o4 : Option PV} {μ : Mem} {res : Int} (h : xt_someBlandLeads_37 x2 x3 μ = some res) : G shX l D ad ca YX5_someBlandLeads 37 [some (.inr 3), o1, some (.inl x2), some (.inl x3), o4] [] μ (some (.inl res)) μ := by
  rw [xt_someBlandLeads_37] at h
  refine G.iload_n (i := 3) dX5_someBlandLeads_37 rfl rfl ?_
  refine G.iload_n (i := 2) dX5_someBlandLeads_38 rfl rfl ?_
  refine G.icmp_ne 46 dX5_someBlandLeads_39 rfl (fun c => ?_) (fun c => ?_)
  · replace h := (if_neg c).symm.trans h
    refine G.iconst dX5_someBlandLeads_46 ki_0 ?_
    exact eb_xt_someBlandLeads_47  h
  · replace h := (if_pos c).symm.trans h
    refine G.iconst dX5_someBlandLeads_42 ki_1 ?_
    refine G.goto 47 dX5_someBlandLeads_43 rfl ?_
    exact eb_xt_someBlandLeads_47  h
set_option maxRecDepth 100000 in
theorem eb_xt_someBlandLeads_5 : ∀ (n : Nat) (x2 : Int) (x3 : Int) (x4 : Int) (o1 : Option PV) (μ : Mem) (res : Int), xt_someBlandLeads_5 n x2 x3 x4 μ = some res → G shX l D ad ca YX5_someBlandLeads 5 [some (.inr 3), o1, some (.inl x2), some (.inl x3), some (.inl x4)] [] μ (some (.inl res)) μ := by
  intro n
  induction n with
  | zero =>
    intro x2 x3 x4 o1 μ res h
    rw [xt_someBlandLeads_5] at h
    cases h
  | succ n ih =>
    intro x2 x3 x4 o1 μ res h
    rw [xt_someBlandLeads_5] at h
    refine G.iload dX5_someBlandLeads_5 rfl ?_
    refine G.powN dX5_someBlandLeads_7 q294 ?_
    refine G.aload_n (i := 0) dX5_someBlandLeads_10 rfl rfl ?_
    refine G.getI ck5 shX_3 3 rfl (by decide) q61 dX5_someBlandLeads_11 ?_
    obtain ⟨v1, hv, h⟩ := bd h
    obtain ⟨hb, rfl⟩ := pget_some hv
    refine G.powld hb dX5_someBlandLeads_14 ?_
    refine G.icmp_ge 37 dX5_someBlandLeads_15 rfl (fun c => ?_) (fun c => ?_)
    · replace h := (if_pos c).symm.trans h
      exact eb_xt_someBlandLeads_37  h
    · replace h := (if_neg c).symm.trans h
      refine G.iload_n (i := 3) dX5_someBlandLeads_18 rfl rfl ?_
      refine G.iload_n (i := 2) dX5_someBlandLeads_19 rfl rfl ?_
      refine G.icmp_eq 37 dX5_someBlandLeads_20 rfl (fun c => ?_) (fun c => ?_)
      · replace h := (if_pos c).symm.trans h
        exact eb_xt_someBlandLeads_37  h
      · replace h := (if_neg c).symm.trans h
        refine G.aload_n (i := 0) dX5_someBlandLeads_23 rfl rfl ?_
        refine G.iload_n (i := 3) dX5_someBlandLeads_24 rfl rfl ?_
        refine G.iload dX5_someBlandLeads_25 rfl ?_
        obtain ⟨v2, hv, h⟩ := bd h
        refine G.callV (e_xt_nextLike hv) cs_X5_someBlandLeads_X5_nextLike ck5 shX_3 rfl rfl (Nat.le_of_ble_eq_true rfl) q492 q494 q14 dX5_someBlandLeads_27 ?_
        refine G.istore_n (i := 3) dX5_someBlandLeads_30 rfl (Nat.le_of_ble_eq_true rfl) ?_
        replace h := bnd_mp h
        refine G.iinc dX5_someBlandLeads_31 rfl (Nat.le_of_ble_eq_true rfl) ?_
        refine G.goto 5 dX5_someBlandLeads_34 rfl ?_
        exact ih _ _ _ _ _ _ h
set_option maxRecDepth 100000 in
theorem e_xt_someBlandLeads {a1 : Int} {a2 : Int} {μ : Mem} {res : Int} (h : xt_someBlandLeads a1 a2 μ = some res) : GM shX l D ad ca YX5_someBlandLeads [.inr 3, .inl a1, .inl a2] μ (some (.inl res)) μ := by
  refine GM.of (L := [some (.inr 3), some (.inl a1), some (.inl a2), none, none]) (by decide +kernel) rfl (Nat.le_of_ble_eq_true rfl) ?_
  rw [xt_someBlandLeads] at h
  refine G.iload_n (i := 1) dX5_someBlandLeads_0 rfl rfl ?_
  refine G.istore_n (i := 3) dX5_someBlandLeads_1 rfl (Nat.le_of_ble_eq_true rfl) ?_
  refine G.iconst dX5_someBlandLeads_2 ki_1 ?_
  refine G.istore dX5_someBlandLeads_3 (Nat.le_of_ble_eq_true rfl) ?_
  exact eb_xt_someBlandLeads_5  _ _ _ _ _ _ _ h
set_option maxRecDepth 100000 in
theorem eb_xx_alike_14 {o1 : Option PV} {o2 : Option PV} {o3 : Option PV} {μ : Mem} {res : (Int × Mem)} (h : xx_alike_14 μ = some res) : G shX l D ad ca YX7_alike 14 [some (.inr 0), o1, o2, o3] [] μ (some (.inl res.1)) res.2 := by
  rw [xx_alike_14] at h
  refine G.bipush dX7_alike_14 kb_m2 ?_
  cases h
  exact G.iret dX7_alike_16 rfl
set_option maxRecDepth 100000 in
theorem eb_xx_alike_68 {s0 : Int} {o1 : Option PV} {o2 : Option PV} {o3 : Option PV} {μ : Mem} {res : (Int × Mem)} (h : xx_alike_68 s0 μ = some res) : G shX l D ad ca YX7_alike 68 [some (.inr 0), o1, o2, o3] [.inl s0] μ (some (.inl res.1)) res.2 := by
  rw [xx_alike_68] at h
  cases h
  exact G.iret dX7_alike_68 rfl
set_option maxRecDepth 100000 in
theorem eb_xx_alike_39 {s0 : Int} {o1 : Option PV} {o2 : Option PV} {o3 : Option PV} {μ : Mem} {res : (Int × Mem)} (h : xx_alike_39 s0 μ = some res) : G shX l D ad ca YX7_alike 39 [some (.inr 0), o1, o2, o3] [.inl s0] μ (some (.inl res.1)) res.2 := by
  rw [xx_alike_39] at h
  cases h
  exact G.iret dX7_alike_39 rfl
set_option maxRecDepth 100000 in
theorem e_xx_alike {a1 : Int} {a2 : Int} {a3 : Int} {μ : Mem} {res : (Int × Mem)} (h : xx_alike a1 a2 a3 μ = some res) : GM shX l D ad ca YX7_alike [.inr 0, .inl a1, .inl a2, .inl a3] μ (some (.inl res.1)) res.2 := by
  refine GM.of (L := [some (.inr 0), some (.inl a1), some (.inl a2), some (.inl a3)]) (by decide +kernel) rfl (Nat.le_of_ble_eq_true rfl) ?_
  rw [xx_alike] at h
  refine G.iload_n (i := 1) dX7_alike_0 rfl rfl ?_
  obtain ⟨v1, hv, h⟩ := bd h
  refine G.callS (e_xx_isMix hv) cs_X7_alike_X7_isMix rfl (Nat.le_of_ble_eq_true rfl) q534 q374 dX7_alike_1 ?_
  refine G.if_eq 14 dX7_alike_4 rfl (fun c => ?_) (fun c => ?_)
  · replace h := (if_pos c).symm.trans h
    exact eb_xx_alike_14  h
  · replace h := (if_neg c).symm.trans h
    refine G.iload_n (i := 2) dX7_alike_7 rfl rfl ?_
    obtain ⟨v2, hv, h⟩ := bd h
    refine G.callS (e_xx_isMix hv) cs_X7_alike_X7_isMix rfl (Nat.le_of_ble_eq_true rfl) q534 q374 dX7_alike_8 ?_
    refine G.if_ne 17 dX7_alike_11 rfl (fun c => ?_) (fun c => ?_)
    · replace h := (if_neg c).symm.trans h
      refine G.iload_n (i := 3) dX7_alike_17 rfl rfl ?_
      refine G.if_ne 40 dX7_alike_18 rfl (fun c => ?_) (fun c => ?_)
      · replace h := (if_neg c).symm.trans h
        refine G.aload_n (i := 0) dX7_alike_40 rfl rfl ?_
        refine G.getR ck7 shX_0 1 rfl (by decide) q237 dX7_alike_41 ?_
        refine G.aload_n (i := 0) dX7_alike_44 rfl rfl ?_
        refine G.getR ck7 shX_0 2 rfl (by decide) q238 dX7_alike_45 ?_
        obtain ⟨μ3, hv, h⟩ := bd h
        refine G.callV (e_xt_learn hv) cs_X7_alike_X5_learn ck5 shX_3 rfl rfl (Nat.le_of_ble_eq_true rfl) q272 q273 q274 dX7_alike_48 ?_
        refine G.aload_n (i := 0) dX7_alike_51 rfl rfl ?_
        refine G.getR ck7 shX_0 1 rfl (by decide) q237 dX7_alike_52 ?_
        refine G.iload_n (i := 1) dX7_alike_55 rfl rfl ?_
        refine G.iload_n (i := 2) dX7_alike_56 rfl rfl ?_
        obtain ⟨v4, hv, h⟩ := bd h
        refine G.callV (e_xt_someBlandLeads hv) cs_X7_alike_X5_someBlandLeads ck5 shX_3 rfl rfl (Nat.le_of_ble_eq_true rfl) q569 q570 q571 dX7_alike_57 ?_
        refine G.if_eq 67 dX7_alike_60 rfl (fun c => ?_) (fun c => ?_)
        · replace h := (if_pos c).symm.trans h
          refine G.iconst dX7_alike_67 ki_0 ?_
          exact eb_xx_alike_68  h
        · replace h := (if_neg c).symm.trans h
          refine G.iconst dX7_alike_63 ki_1 ?_
          refine G.goto 68 dX7_alike_64 rfl ?_
          exact eb_xx_alike_68  h
      · replace h := (if_pos c).symm.trans h
        refine G.aload_n (i := 0) dX7_alike_21 rfl rfl ?_
        refine G.iload_n (i := 1) dX7_alike_22 rfl rfl ?_
        obtain ⟨p5, hv, h⟩ := bd h
        refine G.callV (e_xx_tasteOf hv) cs_X7_alike_X7_tasteOf ck7 shX_0 rfl rfl (Nat.le_of_ble_eq_true rfl) q475 q477 q11 dX7_alike_23 ?_
        refine G.aload_n (i := 0) dX7_alike_26 rfl rfl ?_
        refine G.iload_n (i := 2) dX7_alike_27 rfl rfl ?_
        obtain ⟨p6, hv, h⟩ := bd h
        refine G.callV (e_xx_tasteOf hv) cs_X7_alike_X7_tasteOf ck7 shX_0 rfl rfl (Nat.le_of_ble_eq_true rfl) q475 q477 q11 dX7_alike_28 ?_
        refine G.icmp_ne 38 dX7_alike_31 rfl (fun c => ?_) (fun c => ?_)
        · replace h := (if_neg c).symm.trans h
          refine G.iconst dX7_alike_38 ki_0 ?_
          exact eb_xx_alike_39  h
        · replace h := (if_pos c).symm.trans h
          refine G.iconst dX7_alike_34 ki_1 ?_
          refine G.goto 39 dX7_alike_35 rfl ?_
          exact eb_xx_alike_39  h
    · replace h := (if_pos c).symm.trans h
      exact eb_xx_alike_14  h
set_option maxRecDepth 100000 in
theorem eb_xx_unitsOf_28 {x1 : Int} {o0 : Option PV} {o2 : Option PV} {μ : Mem} {res : Int} (h : xx_unitsOf_28 x1 = some res) : G shX l D ad ca YX7_unitsOf 28 [o0, some (.inl x1), o2] [] μ (some (.inl res)) μ := by
  rw [xx_unitsOf_28] at h
  refine G.iload_n (i := 1) dX7_unitsOf_28 rfl rfl ?_
  cases h
  exact G.iret dX7_unitsOf_29 rfl
set_option maxRecDepth 100000 in
theorem eb_xx_unitsOf_4 : ∀ (n : Nat) (x0 : Int) (x1 : Int) (x2 : Int) (μ : Mem) (res : Int), xx_unitsOf_4 n x0 x1 x2 = some res → G shX l D ad ca YX7_unitsOf 4 [some (.inl x0), some (.inl x1), some (.inl x2)] [] μ (some (.inl res)) μ := by
  intro n
  induction n with
  | zero =>
    intro x0 x1 x2 μ res h
    rw [xx_unitsOf_4] at h
    cases h
  | succ n ih =>
    intro x0 x1 x2 μ res h
    rw [xx_unitsOf_4] at h
    refine G.iload_n (i := 2) dX7_unitsOf_4 rfl rfl ?_
    refine G.bipush dX7_unitsOf_5 kb_8 ?_
    refine G.icmp_ge 28 dX7_unitsOf_7 rfl (fun c => ?_) (fun c => ?_)
    · replace h := (if_pos c).symm.trans h
      exact eb_xx_unitsOf_28  h
    · replace h := (if_neg c).symm.trans h
      refine G.iload_n (i := 1) dX7_unitsOf_10 rfl rfl ?_
      refine G.iload_n (i := 0) dX7_unitsOf_11 rfl rfl ?_
      refine G.pow dX7_unitsOf_12 q312 ?_
      refine G.iload_n (i := 2) dX7_unitsOf_15 rfl rfl ?_
      obtain ⟨v1, hv, h⟩ := bd h
      obtain ⟨hb, rfl⟩ := pget_some hv
      refine G.powld hb dX7_unitsOf_16 ?_
      obtain ⟨hz, h⟩ := ite_nn h
      refine G.idiv dX7_unitsOf_17 hz ?_
      refine G.iconst dX7_unitsOf_18 ki_3 ?_
      refine G.irem dX7_unitsOf_19 (by decide) ?_
      refine G.iadd dX7_unitsOf_20 ?_
      replace h := bnd_mp h
      refine G.istore_n (i := 1) dX7_unitsOf_21 rfl (Nat.le_of_ble_eq_true rfl) ?_
      replace h := bnd_mp h
      refine G.iinc dX7_unitsOf_22 rfl (Nat.le_of_ble_eq_true rfl) ?_
      refine G.goto 4 dX7_unitsOf_25 rfl ?_
      exact ih _ _ _ _ _ h
set_option maxRecDepth 100000 in
theorem e_xx_unitsOf {a1 : Int} {μ : Mem} {res : Int} (h : xx_unitsOf a1 = some res) : GM shX l D ad ca YX7_unitsOf [.inl a1] μ (some (.inl res)) μ := by
  refine GM.of (L := [some (.inl a1), none, none]) (by decide +kernel) rfl (Nat.le_of_ble_eq_true rfl) ?_
  rw [xx_unitsOf] at h
  refine G.iconst dX7_unitsOf_0 ki_0 ?_
  refine G.istore_n (i := 1) dX7_unitsOf_1 rfl (Nat.le_of_ble_eq_true rfl) ?_
  refine G.iconst dX7_unitsOf_2 ki_0 ?_
  refine G.istore_n (i := 2) dX7_unitsOf_3 rfl (Nat.le_of_ble_eq_true rfl) ?_
  exact eb_xx_unitsOf_4  _ _ _ _ _ _ h
set_option maxRecDepth 100000 in
theorem eb_xx_unitsInJars_36 {x1 : Int} {o2 : Option PV} {μ : Mem} {res : Int} (h : xx_unitsInJars_36 x1 μ = some res) : G shX l D ad ca YX7_unitsInJars 36 [some (.inr 0), some (.inl x1), o2] [] μ (some (.inl res)) μ := by
  rw [xx_unitsInJars_36] at h
  refine G.iload_n (i := 1) dX7_unitsInJars_36 rfl rfl ?_
  cases h
  exact G.iret dX7_unitsInJars_37 rfl
set_option maxRecDepth 100000 in
theorem eb_xx_unitsInJars_4 : ∀ (n : Nat) (x1 : Int) (x2 : Int) (μ : Mem) (res : Int), xx_unitsInJars_4 n x1 x2 μ = some res → G shX l D ad ca YX7_unitsInJars 4 [some (.inr 0), some (.inl x1), some (.inl x2)] [] μ (some (.inl res)) μ := by
  intro n
  induction n with
  | zero =>
    intro x1 x2 μ res h
    rw [xx_unitsInJars_4] at h
    cases h
  | succ n ih =>
    intro x1 x2 μ res h
    rw [xx_unitsInJars_4] at h
    refine G.iload_n (i := 2) dX7_unitsInJars_4 rfl rfl ?_
    refine G.aload_n (i := 0) dX7_unitsInJars_5 rfl rfl ?_
    refine G.getR ck7 shX_0 2 rfl (by decide) q238 dX7_unitsInJars_6 ?_
    refine G.getINN ck4 shX_10 2 rfl (by decide) q104 dX7_unitsInJars_9 ?_
    refine G.icmp_ge 36 dX7_unitsInJars_12 rfl (fun c => ?_) (fun c => ?_)
    · replace h := (if_pos c).symm.trans h
      exact eb_xx_unitsInJars_36  h
    · replace h := (if_neg c).symm.trans h
      refine G.iload_n (i := 1) dX7_unitsInJars_15 rfl rfl ?_
      refine G.aload_n (i := 0) dX7_unitsInJars_16 rfl rfl ?_
      refine G.getR ck7 shX_0 2 rfl (by decide) q238 dX7_unitsInJars_17 ?_
      refine G.getRN ck4 shX_10 1 rfl (by decide) q100 dX7_unitsInJars_20 ?_
      refine G.iload_n (i := 2) dX7_unitsInJars_23 rfl rfl ?_
      obtain ⟨v1, hv, h⟩ := bd h
      obtain ⟨hb, rfl⟩ := aget_some hv
      refine G.iald shX_12 hb dX7_unitsInJars_24 ?_
      obtain ⟨v2, hv, h⟩ := bd h
      refine G.callS (e_xx_unitsOf hv) cs_X7_unitsInJars_X7_unitsOf rfl (Nat.le_of_ble_eq_true rfl) q329 q330 dX7_unitsInJars_25 ?_
      refine G.iadd dX7_unitsInJars_28 ?_
      replace h := bnd_mp h
      refine G.istore_n (i := 1) dX7_unitsInJars_29 rfl (Nat.le_of_ble_eq_true rfl) ?_
      replace h := bnd_mp h
      refine G.iinc dX7_unitsInJars_30 rfl (Nat.le_of_ble_eq_true rfl) ?_
      refine G.goto 4 dX7_unitsInJars_33 rfl ?_
      exact ih _ _ _ _ h
set_option maxRecDepth 100000 in
theorem e_xx_unitsInJars {μ : Mem} {res : Int} (h : xx_unitsInJars μ = some res) : GM shX l D ad ca YX7_unitsInJars [.inr 0] μ (some (.inl res)) μ := by
  refine GM.of (L := [some (.inr 0), none, none]) (by decide +kernel) rfl (Nat.le_of_ble_eq_true rfl) ?_
  rw [xx_unitsInJars] at h
  refine G.iconst dX7_unitsInJars_0 ki_0 ?_
  refine G.istore_n (i := 1) dX7_unitsInJars_1 rfl (Nat.le_of_ble_eq_true rfl) ?_
  refine G.iconst dX7_unitsInJars_2 ki_0 ?_
  refine G.istore_n (i := 2) dX7_unitsInJars_3 rfl (Nat.le_of_ble_eq_true rfl) ?_
  exact eb_xx_unitsInJars_4  _ _ _ _ _ h
set_option maxRecDepth 100000 in
theorem eb_xx_accountTold_134 {o1 : Option PV} {μ : Mem} {res : Int} (h : xx_accountTold_134 μ = some res) : G shX l D ad ca YX7_accountTold 134 [some (.inr 0), o1] [] μ (some (.inl res)) μ := by
  rw [xx_accountTold_134] at h
  refine G.bipush dX7_accountTold_134 kb_m2 ?_
  cases h
  exact G.iret dX7_accountTold_136 rfl
set_option maxRecDepth 100000 in
theorem e_xx_accountTold {a1 : Int} {μ : Mem} {res : Int} (h : xx_accountTold a1 μ = some res) : GM shX l D ad ca YX7_accountTold [.inr 0, .inl a1] μ (some (.inl res)) μ := by
  refine GM.of (L := [some (.inr 0), some (.inl a1)]) (by decide +kernel) rfl (Nat.le_of_ble_eq_true rfl) ?_
  rw [xx_accountTold] at h
  refine G.iload_n (i := 1) dX7_accountTold_0 rfl rfl ?_
  refine G.tsCase 7 52 dX7_accountTold_1 (by decide) (by decide) rfl rfl (fun c7 => ?_) (fun c7 => ?_)
  · replace h := (if_pos c7).symm.trans h
    refine G.aload_n (i := 0) dX7_accountTold_52 rfl rfl ?_
    refine G.getR ck7 shX_0 2 rfl (by decide) q238 dX7_accountTold_53 ?_
    refine G.getRN ck4 shX_10 9 rfl (by decide) q125 dX7_accountTold_56 ?_
    refine G.iconst dX7_accountTold_59 ki_0 ?_
    refine G.ialdc 0 shX_16 rfl (by decide) dX7_accountTold_60 ?_
    cases h
    exact G.iret dX7_accountTold_61 rfl
  replace h := (if_neg c7).symm.trans h
  refine G.tsCase 8 62 dX7_accountTold_1 (by decide) (by decide) rfl rfl (fun c8 => ?_) (fun c8 => ?_)
  · replace h := (if_pos c8).symm.trans h
    refine G.aload_n (i := 0) dX7_accountTold_62 rfl rfl ?_
    refine G.getR ck7 shX_0 2 rfl (by decide) q238 dX7_accountTold_63 ?_
    refine G.getRN ck4 shX_10 9 rfl (by decide) q125 dX7_accountTold_66 ?_
    refine G.iconst dX7_accountTold_69 ki_1 ?_
    refine G.ialdc 1 shX_16 rfl (by decide) dX7_accountTold_70 ?_
    cases h
    exact G.iret dX7_accountTold_71 rfl
  replace h := (if_neg c8).symm.trans h
  refine G.tsCase 9 72 dX7_accountTold_1 (by decide) (by decide) rfl rfl (fun c9 => ?_) (fun c9 => ?_)
  · replace h := (if_pos c9).symm.trans h
    refine G.aload_n (i := 0) dX7_accountTold_72 rfl rfl ?_
    refine G.getR ck7 shX_0 2 rfl (by decide) q238 dX7_accountTold_73 ?_
    refine G.getRN ck4 shX_10 9 rfl (by decide) q125 dX7_accountTold_76 ?_
    refine G.iconst dX7_accountTold_79 ki_2 ?_
    refine G.ialdc 2 shX_16 rfl (by decide) dX7_accountTold_80 ?_
    cases h
    exact G.iret dX7_accountTold_81 rfl
  replace h := (if_neg c9).symm.trans h
  refine G.tsCase 10 82 dX7_accountTold_1 (by decide) (by decide) rfl rfl (fun c10 => ?_) (fun c10 => ?_)
  · replace h := (if_pos c10).symm.trans h
    refine G.aload_n (i := 0) dX7_accountTold_82 rfl rfl ?_
    refine G.getR ck7 shX_0 2 rfl (by decide) q238 dX7_accountTold_83 ?_
    refine G.getRN ck4 shX_10 9 rfl (by decide) q125 dX7_accountTold_86 ?_
    refine G.iconst dX7_accountTold_89 ki_3 ?_
    refine G.ialdc 3 shX_16 rfl (by decide) dX7_accountTold_90 ?_
    cases h
    exact G.iret dX7_accountTold_91 rfl
  replace h := (if_neg c10).symm.trans h
  refine G.tsCase 11 134 dX7_accountTold_1 (by decide) (by decide) rfl rfl (fun c11 => ?_) (fun c11 => ?_)
  · replace h := (if_pos c11).symm.trans h
    exact eb_xx_accountTold_134  h
  replace h := (if_neg c11).symm.trans h
  refine G.tsCase 12 92 dX7_accountTold_1 (by decide) (by decide) rfl rfl (fun c12 => ?_) (fun c12 => ?_)
  · replace h := (if_pos c12).symm.trans h
    refine G.aload_n (i := 0) dX7_accountTold_92 rfl rfl ?_
    refine G.getR ck7 shX_0 2 rfl (by decide) q238 dX7_accountTold_93 ?_
    refine G.getRN ck4 shX_10 9 rfl (by decide) q125 dX7_accountTold_96 ?_
    refine G.iconst dX7_accountTold_99 ki_4 ?_
    refine G.ialdc 4 shX_16 rfl (by decide) dX7_accountTold_100 ?_
    cases h
    exact G.iret dX7_accountTold_101 rfl
  replace h := (if_neg c12).symm.trans h
  refine G.tsCase 13 102 dX7_accountTold_1 (by decide) (by decide) rfl rfl (fun c13 => ?_) (fun c13 => ?_)
  · replace h := (if_pos c13).symm.trans h
    refine G.aload_n (i := 0) dX7_accountTold_102 rfl rfl ?_
    refine G.getR ck7 shX_0 2 rfl (by decide) q238 dX7_accountTold_103 ?_
    refine G.getRN ck4 shX_10 9 rfl (by decide) q125 dX7_accountTold_106 ?_
    refine G.iconst dX7_accountTold_109 ki_5 ?_
    refine G.ialdc 5 shX_16 rfl (by decide) dX7_accountTold_110 ?_
    cases h
    exact G.iret dX7_accountTold_111 rfl
  replace h := (if_neg c13).symm.trans h
  refine G.tsCase 14 112 dX7_accountTold_1 (by decide) (by decide) rfl rfl (fun c14 => ?_) (fun c14 => ?_)
  · replace h := (if_pos c14).symm.trans h
    refine G.aload_n (i := 0) dX7_accountTold_112 rfl rfl ?_
    refine G.getR ck7 shX_0 2 rfl (by decide) q238 dX7_accountTold_113 ?_
    refine G.getRN ck4 shX_10 9 rfl (by decide) q125 dX7_accountTold_116 ?_
    refine G.bipush dX7_accountTold_119 kb_6 ?_
    refine G.ialdc 6 shX_16 rfl (by decide) dX7_accountTold_121 ?_
    cases h
    exact G.iret dX7_accountTold_122 rfl
  replace h := (if_neg c14).symm.trans h
  refine G.tsCase 15 123 dX7_accountTold_1 (by decide) (by decide) rfl rfl (fun c15 => ?_) (fun c15 => ?_)
  · replace h := (if_pos c15).symm.trans h
    refine G.aload_n (i := 0) dX7_accountTold_123 rfl rfl ?_
    refine G.getR ck7 shX_0 2 rfl (by decide) q238 dX7_accountTold_124 ?_
    refine G.getRN ck4 shX_10 9 rfl (by decide) q125 dX7_accountTold_127 ?_
    refine G.bipush dX7_accountTold_130 kb_7 ?_
    refine G.ialdc 7 shX_16 rfl (by decide) dX7_accountTold_132 ?_
    cases h
    exact G.iret dX7_accountTold_133 rfl
  replace h := (if_neg c15).symm.trans h
  refine G.tsOut 134 dX7_accountTold_1 (by omega) rfl ?_
  exact eb_xx_accountTold_134  h
set_option maxRecDepth 100000 in
theorem eb_xx_nextShelf_61 {x2 : Int} {o1 : Option PV} {o3 : Option PV} {o4 : Option PV} {μ : Mem} {res : Int} (h : xx_nextShelf_61 x2 μ = some res) : G shX l D ad ca YX7_nextShelf 61 [some (.inr 0), o1, some (.inl x2), o3, o4] [] μ (some (.inl res)) μ := by
  rw [xx_nextShelf_61] at h
  refine G.iload_n (i := 2) dX7_nextShelf_61 rfl rfl ?_
  cases h
  exact G.iret dX7_nextShelf_62 rfl
set_option maxRecDepth 100000 in
theorem eb_xx_nextShelf_55 {K5 : Int → Int → Int → Mem → Option Int} (hK5 : ∀ (x1 : Int) (x2 : Int) (x3 : Int) (o4 : Option PV) (μ : Mem) (res : Int), K5 x1 x2 x3 μ = some res → G shX l D ad ca YX7_nextShelf 5 [some (.inr 0), some (.inl x1), some (.inl x2), some (.inl x3), o4] [] μ (some (.inl res)) μ) {x1 : Int} {x2 : Int} {x3 : Int} {o4 : Option PV} {μ : Mem} {res : Int} (h : xx_nextShelf_55 K5 x1 x2 x3 μ = some res) : G shX l D ad ca YX7_nextShelf 55 [some (.inr 0), some (.inl x1), some (.inl x2), some (.inl x3), o4] [] μ (some (.inl res)) μ := by
  rw [xx_nextShelf_55] at h
  replace h := bnd_mp h
  refine G.iinc dX7_nextShelf_55 rfl (Nat.le_of_ble_eq_true rfl) ?_
  refine G.goto 5 dX7_nextShelf_58 rfl ?_
  exact hK5 _ _ _ _ _ _ h
set_option maxRecDepth 100000 in
theorem eb_xx_nextShelf_52 {K5 : Int → Int → Int → Mem → Option Int} (hK5 : ∀ (x1 : Int) (x2 : Int) (x3 : Int) (o4 : Option PV) (μ : Mem) (res : Int), K5 x1 x2 x3 μ = some res → G shX l D ad ca YX7_nextShelf 5 [some (.inr 0), some (.inl x1), some (.inl x2), some (.inl x3), o4] [] μ (some (.inl res)) μ) {x1 : Int} {x3 : Int} {x4 : Int} {o2 : Option PV} {μ : Mem} {res : Int} (h : xx_nextShelf_52 K5 x1 x3 x4 μ = some res) : G shX l D ad ca YX7_nextShelf 52 [some (.inr 0), some (.inl x1), o2, some (.inl x3), some (.inl x4)] [] μ (some (.inl res)) μ := by
  rw [xx_nextShelf_52] at h
  refine G.iload dX7_nextShelf_52 rfl ?_
  refine G.istore_n (i := 2) dX7_nextShelf_54 rfl (Nat.le_of_ble_eq_true rfl) ?_
  exact eb_xx_nextShelf_55 hK5 h
set_option maxRecDepth 100000 in
theorem eb_xx_nextShelf_5 : ∀ (n : Nat) (x1 : Int) (x2 : Int) (x3 : Int) (o4 : Option PV) (μ : Mem) (res : Int), xx_nextShelf_5 n x1 x2 x3 μ = some res → G shX l D ad ca YX7_nextShelf 5 [some (.inr 0), some (.inl x1), some (.inl x2), some (.inl x3), o4] [] μ (some (.inl res)) μ := by
  intro n
  induction n with
  | zero =>
    intro x1 x2 x3 o4 μ res h
    rw [xx_nextShelf_5] at h
    cases h
  | succ n ih =>
    intro x1 x2 x3 o4 μ res h
    rw [xx_nextShelf_5] at h
    refine G.iload_n (i := 3) dX7_nextShelf_5 rfl rfl ?_
    refine G.aload_n (i := 0) dX7_nextShelf_6 rfl rfl ?_
    refine G.getR ck7 shX_0 2 rfl (by decide) q238 dX7_nextShelf_7 ?_
    refine G.getINN ck4 shX_10 2 rfl (by decide) q104 dX7_nextShelf_10 ?_
    refine G.icmp_ge 61 dX7_nextShelf_13 rfl (fun c => ?_) (fun c => ?_)
    · replace h := (if_pos c).symm.trans h
      exact eb_xx_nextShelf_61  h
    · replace h := (if_neg c).symm.trans h
      refine G.aload_n (i := 0) dX7_nextShelf_16 rfl rfl ?_
      refine G.getR ck7 shX_0 1 rfl (by decide) q237 dX7_nextShelf_17 ?_
      refine G.aload_n (i := 0) dX7_nextShelf_20 rfl rfl ?_
      refine G.getR ck7 shX_0 2 rfl (by decide) q238 dX7_nextShelf_21 ?_
      refine G.getRN ck4 shX_10 1 rfl (by decide) q100 dX7_nextShelf_24 ?_
      refine G.iload_n (i := 3) dX7_nextShelf_27 rfl rfl ?_
      obtain ⟨v1, hv, h⟩ := bd h
      obtain ⟨hb, rfl⟩ := aget_some hv
      refine G.iald shX_12 hb dX7_nextShelf_28 ?_
      obtain ⟨v2, hv, h⟩ := bd h
      refine G.callV (e_xt_leastLike hv) cs_X7_nextShelf_X5_leastLike ck5 shX_3 rfl rfl (Nat.le_of_ble_eq_true rfl) q321 q322 q323 dX7_nextShelf_29 ?_
      refine G.istore dX7_nextShelf_32 (Nat.le_of_ble_eq_true rfl) ?_
      refine G.iload dX7_nextShelf_34 rfl ?_
      refine G.iload_n (i := 1) dX7_nextShelf_36 rfl rfl ?_
      refine G.icmp_le 55 dX7_nextShelf_37 rfl (fun c => ?_) (fun c => ?_)
      · replace h := (if_pos c).symm.trans h
        exact eb_xx_nextShelf_55 ih h
      · replace h := (if_neg c).symm.trans h
        refine G.iload_n (i := 2) dX7_nextShelf_40 rfl rfl ?_
        refine G.bipush dX7_nextShelf_41 kb_m5 ?_
        refine G.icmp_eq 52 dX7_nextShelf_43 rfl (fun c => ?_) (fun c => ?_)
        · replace h := (if_pos c).symm.trans h
          exact eb_xx_nextShelf_52 ih h
        · replace h := (if_neg c).symm.trans h
          refine G.iload dX7_nextShelf_46 rfl ?_
          refine G.iload_n (i := 2) dX7_nextShelf_48 rfl rfl ?_
          refine G.icmp_ge 55 dX7_nextShelf_49 rfl (fun c => ?_) (fun c => ?_)
          · replace h := (if_pos c).symm.trans h
            exact eb_xx_nextShelf_55 ih h
          · replace h := (if_neg c).symm.trans h
            exact eb_xx_nextShelf_52 ih h
set_option maxRecDepth 100000 in
theorem e_xx_nextShelf {a1 : Int} {μ : Mem} {res : Int} (h : xx_nextShelf a1 μ = some res) : GM shX l D ad ca YX7_nextShelf [.inr 0, .inl a1] μ (some (.inl res)) μ := by
  refine GM.of (L := [some (.inr 0), some (.inl a1), none, none, none]) (by decide +kernel) rfl (Nat.le_of_ble_eq_true rfl) ?_
  rw [xx_nextShelf] at h
  refine G.bipush dX7_nextShelf_0 kb_m5 ?_
  refine G.istore_n (i := 2) dX7_nextShelf_2 rfl (Nat.le_of_ble_eq_true rfl) ?_
  refine G.iconst dX7_nextShelf_3 ki_0 ?_
  refine G.istore_n (i := 3) dX7_nextShelf_4 rfl (Nat.le_of_ble_eq_true rfl) ?_
  exact eb_xx_nextShelf_5  _ _ _ _ _ _ _ h
set_option maxRecDepth 100000 in
theorem eb_xx_shelves_51 {x1 : Int} {o2 : Option PV} {o3 : Option PV} {μ : Mem} {res : (Int × Mem)} (h : xx_shelves_51 x1 μ = some res) : G shX l D ad ca YX7_shelves 51 [some (.inr 0), some (.inl x1), o2, o3] [] μ (some (.inl res.1)) res.2 := by
  rw [xx_shelves_51] at h
  refine G.iload_n (i := 1) dX7_shelves_51 rfl rfl ?_
  cases h
  exact G.iret dX7_shelves_52 rfl
set_option maxRecDepth 100000 in
theorem eb_xx_shelves_21 : ∀ (n : Nat) (x1 : Int) (x2 : Int) (x3 : Int) (μ : Mem) (res : (Int × Mem)), xx_shelves_21 n x1 x2 x3 μ = some res → G shX l D ad ca YX7_shelves 21 [some (.inr 0), some (.inl x1), some (.inl x2), some (.inl x3)] [] μ (some (.inl res.1)) res.2 := by
  intro n
  induction n with
  | zero =>
    intro x1 x2 x3 μ res h
    rw [xx_shelves_21] at h
    cases h
  | succ n ih =>
    intro x1 x2 x3 μ res h
    rw [xx_shelves_21] at h
    refine G.iload_n (i := 3) dX7_shelves_21 rfl rfl ?_
    refine G.aload_n (i := 0) dX7_shelves_22 rfl rfl ?_
    refine G.getR ck7 shX_0 2 rfl (by decide) q238 dX7_shelves_23 ?_
    refine G.getINN ck4 shX_10 2 rfl (by decide) q104 dX7_shelves_26 ?_
    refine G.icmp_ge 51 dX7_shelves_29 rfl (fun c => ?_) (fun c => ?_)
    · replace h := (if_pos c).symm.trans h
      exact eb_xx_shelves_51  h
    · replace h := (if_neg c).symm.trans h
      refine G.iload_n (i := 2) dX7_shelves_32 rfl rfl ?_
      refine G.if_lt 51 dX7_shelves_33 rfl (fun c => ?_) (fun c => ?_)
      · replace h := (if_pos c).symm.trans h
        exact eb_xx_shelves_51  h
      · replace h := (if_neg c).symm.trans h
        replace h := bnd_mp h
        refine G.iinc dX7_shelves_36 rfl (Nat.le_of_ble_eq_true rfl) ?_
        refine G.aload_n (i := 0) dX7_shelves_39 rfl rfl ?_
        refine G.iload_n (i := 2) dX7_shelves_40 rfl rfl ?_
        obtain ⟨v4, hv, h⟩ := bd h
        refine G.callV (e_xx_nextShelf hv) cs_X7_shelves_X7_nextShelf ck7 shX_0 rfl rfl (Nat.le_of_ble_eq_true rfl) q317 q319 q6 dX7_shelves_41 ?_
        refine G.istore_n (i := 2) dX7_shelves_44 rfl (Nat.le_of_ble_eq_true rfl) ?_
        replace h := bnd_mp h
        refine G.iinc dX7_shelves_45 rfl (Nat.le_of_ble_eq_true rfl) ?_
        refine G.goto 21 dX7_shelves_48 rfl ?_
        exact ih _ _ _ _ _ h
set_option maxRecDepth 100000 in
theorem e_xx_shelves {μ : Mem} {res : (Int × Mem)} (h : xx_shelves μ = some res) : GM shX l D ad ca YX7_shelves [.inr 0] μ (some (.inl res.1)) res.2 := by
  refine GM.of (L := [some (.inr 0), none, none, none]) (by decide +kernel) rfl (Nat.le_of_ble_eq_true rfl) ?_
  rw [xx_shelves] at h
  refine G.aload_n (i := 0) dX7_shelves_0 rfl rfl ?_
  refine G.getR ck7 shX_0 1 rfl (by decide) q237 dX7_shelves_1 ?_
  refine G.aload_n (i := 0) dX7_shelves_4 rfl rfl ?_
  refine G.getR ck7 shX_0 2 rfl (by decide) q238 dX7_shelves_5 ?_
  obtain ⟨μ1, hv, h⟩ := bd h
  refine G.callV (e_xt_learn hv) cs_X7_shelves_X5_learn ck5 shX_3 rfl rfl (Nat.le_of_ble_eq_true rfl) q272 q273 q274 dX7_shelves_8 ?_
  refine G.iconst dX7_shelves_11 ki_0 ?_
  refine G.istore_n (i := 1) dX7_shelves_12 rfl (Nat.le_of_ble_eq_true rfl) ?_
  refine G.aload_n (i := 0) dX7_shelves_13 rfl rfl ?_
  refine G.iconst dX7_shelves_14 ki_m1 ?_
  obtain ⟨v2, hv, h⟩ := bd h
  refine G.callV (e_xx_nextShelf hv) cs_X7_shelves_X7_nextShelf ck7 shX_0 rfl rfl (Nat.le_of_ble_eq_true rfl) q317 q319 q6 dX7_shelves_15 ?_
  refine G.istore_n (i := 2) dX7_shelves_18 rfl (Nat.le_of_ble_eq_true rfl) ?_
  refine G.iconst dX7_shelves_19 ki_0 ?_
  refine G.istore_n (i := 3) dX7_shelves_20 rfl (Nat.le_of_ble_eq_true rfl) ?_
  exact eb_xx_shelves_21  _ _ _ _ _ _ h
set_option maxRecDepth 100000 in
theorem e_xx_strength {μ : Mem} {res : (Int × Mem)} (h : xx_strength μ = some res) : GM shX l D ad ca YX7_strength [.inr 0] μ (some (.inl res.1)) res.2 := by
  refine GM.of (L := [some (.inr 0)]) (by decide +kernel) rfl (Nat.le_of_ble_eq_true rfl) ?_
  rw [xx_strength] at h
  refine G.aload_n (i := 0) dX7_strength_0 rfl rfl ?_
  refine G.getR ck7 shX_0 1 rfl (by decide) q237 dX7_strength_1 ?_
  refine G.aload_n (i := 0) dX7_strength_4 rfl rfl ?_
  refine G.getR ck7 shX_0 2 rfl (by decide) q238 dX7_strength_5 ?_
  obtain ⟨μ1, hv, h⟩ := bd h
  refine G.callV (e_xt_learn hv) cs_X7_strength_X5_learn ck5 shX_3 rfl rfl (Nat.le_of_ble_eq_true rfl) q272 q273 q274 dX7_strength_8 ?_
  refine G.aload_n (i := 0) dX7_strength_11 rfl rfl ?_
  refine G.getR ck7 shX_0 1 rfl (by decide) q237 dX7_strength_12 ?_
  refine G.getINN ck5 shX_3 3 rfl (by decide) q62 dX7_strength_15 ?_
  cases h
  exact G.iret dX7_strength_18 rfl
set_option maxRecDepth 100000 in
theorem eb_xx_count_164 {x1 : Int} {μ : Mem} {res : (Int × Mem)} (h : xx_count_164 x1 μ = some res) : G shX l D ad ca YX7_count 164 [some (.inr 0), some (.inl x1)] [] μ (some (.inl res.1)) res.2 := by
  rw [xx_count_164] at h
  refine G.aload_n (i := 0) dX7_count_164 rfl rfl ?_
  refine G.iload_n (i := 1) dX7_count_165 rfl rfl ?_
  obtain ⟨v7, hv, h⟩ := bd h
  refine G.callV (e_xx_accountTold hv) cs_X7_count_X7_accountTold ck7 shX_0 rfl rfl (Nat.le_of_ble_eq_true rfl) q332 q334 q8 dX7_count_166 ?_
  cases h
  exact G.iret dX7_count_169 rfl
set_option maxRecDepth 100000 in
theorem e_xx_count {a1 : Int} {μ : Mem} {res : (Int × Mem)} (h : xx_count a1 μ = some res) : GM shX l D ad ca YX7_count [.inr 0, .inl a1] μ (some (.inl res.1)) res.2 := by
  refine GM.of (L := [some (.inr 0), some (.inl a1)]) (by decide +kernel) rfl (Nat.le_of_ble_eq_true rfl) ?_
  rw [xx_count] at h
  refine G.iload_n (i := 1) dX7_count_0 rfl rfl ?_
  refine G.tsCase 0 88 dX7_count_1 (by decide) (by decide) rfl rfl (fun c0 => ?_) (fun c0 => ?_)
  · replace h := (if_pos c0).symm.trans h
    refine G.aload_n (i := 0) dX7_count_88 rfl rfl ?_
    refine G.getR ck7 shX_0 2 rfl (by decide) q238 dX7_count_89 ?_
    refine G.getINN ck4 shX_10 2 rfl (by decide) q104 dX7_count_92 ?_
    cases h
    exact G.iret dX7_count_95 rfl
  replace h := (if_neg c0).symm.trans h
  refine G.tsCase 1 96 dX7_count_1 (by decide) (by decide) rfl rfl (fun c1 => ?_) (fun c1 => ?_)
  · replace h := (if_pos c1).symm.trans h
    refine G.aload_n (i := 0) dX7_count_96 rfl rfl ?_
    refine G.getR ck7 shX_0 2 rfl (by decide) q238 dX7_count_97 ?_
    refine G.getINN ck4 shX_10 5 rfl (by decide) q113 dX7_count_100 ?_
    cases h
    exact G.iret dX7_count_103 rfl
  replace h := (if_neg c1).symm.trans h
  refine G.tsCase 2 104 dX7_count_1 (by decide) (by decide) rfl rfl (fun c2 => ?_) (fun c2 => ?_)
  · replace h := (if_pos c2).symm.trans h
    refine G.aload_n (i := 0) dX7_count_104 rfl rfl ?_
    obtain ⟨p1, hv, h⟩ := bd h
    refine G.callV (e_xx_strength hv) cs_X7_count_X7_strength ck7 shX_0 rfl rfl (Nat.le_of_ble_eq_true rfl) q268 q270 q0 dX7_count_105 ?_
    cases h
    exact G.iret dX7_count_108 rfl
  replace h := (if_neg c2).symm.trans h
  refine G.tsCase 3 109 dX7_count_1 (by decide) (by decide) rfl rfl (fun c3 => ?_) (fun c3 => ?_)
  · replace h := (if_pos c3).symm.trans h
    refine G.pow dX7_count_109 q312 ?_
    refine G.aload_n (i := 0) dX7_count_112 rfl rfl ?_
    obtain ⟨p2, hv, h⟩ := bd h
    refine G.callV (e_xx_strength hv) cs_X7_count_X7_strength ck7 shX_0 rfl rfl (Nat.le_of_ble_eq_true rfl) q268 q270 q0 dX7_count_113 ?_
    obtain ⟨v3, hv, h⟩ := bd h
    obtain ⟨hb, rfl⟩ := pget_some hv
    refine G.powld hb dX7_count_116 ?_
    cases h
    exact G.iret dX7_count_117 rfl
  replace h := (if_neg c3).symm.trans h
  refine G.tsCase 4 118 dX7_count_1 (by decide) (by decide) rfl rfl (fun c4 => ?_) (fun c4 => ?_)
  · replace h := (if_pos c4).symm.trans h
    refine G.pow dX7_count_118 q312 ?_
    refine G.bipush dX7_count_121 kb_8 ?_
    refine G.aload_n (i := 0) dX7_count_123 rfl rfl ?_
    obtain ⟨p4, hv, h⟩ := bd h
    refine G.callV (e_xx_strength hv) cs_X7_count_X7_strength ck7 shX_0 rfl rfl (Nat.le_of_ble_eq_true rfl) q268 q270 q0 dX7_count_124 ?_
    refine G.isub dX7_count_127 ?_
    obtain ⟨v5, hv, h⟩ := bd h
    obtain ⟨hb, rfl⟩ := pget_some hv
    refine G.powld hb dX7_count_128 ?_
    cases h
    exact G.iret dX7_count_129 rfl
  replace h := (if_neg c4).symm.trans h
  refine G.tsCase 5 130 dX7_count_1 (by decide) (by decide) rfl rfl (fun c5 => ?_) (fun c5 => ?_)
  · replace h := (if_pos c5).symm.trans h
    refine G.aload_n (i := 0) dX7_count_130 rfl rfl ?_
    obtain ⟨p6, hv, h⟩ := bd h
    refine G.callV (e_xx_shelves hv) cs_X7_count_X7_shelves ck7 shX_0 rfl rfl (Nat.le_of_ble_eq_true rfl) q313 q315 q5 dX7_count_131 ?_
    cases h
    exact G.iret dX7_count_134 rfl
  replace h := (if_neg c5).symm.trans h
  refine G.tsCase 6 135 dX7_count_1 (by decide) (by decide) rfl rfl (fun c6 => ?_) (fun c6 => ?_)
  · replace h := (if_pos c6).symm.trans h
    refine G.aload_n (i := 0) dX7_count_135 rfl rfl ?_
    refine G.getR ck7 shX_0 2 rfl (by decide) q238 dX7_count_136 ?_
    refine G.getINN ck4 shX_10 8 rfl (by decide) q122 dX7_count_139 ?_
    cases h
    exact G.iret dX7_count_142 rfl
  replace h := (if_neg c6).symm.trans h
  refine G.tsCase 7 164 dX7_count_1 (by decide) (by decide) rfl rfl (fun c7 => ?_) (fun c7 => ?_)
  · replace h := (if_pos c7).symm.trans h
    exact eb_xx_count_164  h
  replace h := (if_neg c7).symm.trans h
  refine G.tsCase 8 164 dX7_count_1 (by decide) (by decide) rfl rfl (fun c8 => ?_) (fun c8 => ?_)
  · replace h := (if_pos c8).symm.trans h
    exact eb_xx_count_164  h
  replace h := (if_neg c8).symm.trans h
  refine G.tsCase 9 164 dX7_count_1 (by decide) (by decide) rfl rfl (fun c9 => ?_) (fun c9 => ?_)
  · replace h := (if_pos c9).symm.trans h
    exact eb_xx_count_164  h
  replace h := (if_neg c9).symm.trans h
  refine G.tsCase 10 164 dX7_count_1 (by decide) (by decide) rfl rfl (fun c10 => ?_) (fun c10 => ?_)
  · replace h := (if_pos c10).symm.trans h
    exact eb_xx_count_164  h
  replace h := (if_neg c10).symm.trans h
  refine G.tsCase 11 143 dX7_count_1 (by decide) (by decide) rfl rfl (fun c11 => ?_) (fun c11 => ?_)
  · replace h := (if_pos c11).symm.trans h
    refine G.aload_n (i := 0) dX7_count_143 rfl rfl ?_
    obtain ⟨v8, hv, h⟩ := bd h
    refine G.callV (e_xx_unitsInJars hv) cs_X7_count_X7_unitsInJars ck7 shX_0 rfl rfl (Nat.le_of_ble_eq_true rfl) q325 q327 q7 dX7_count_144 ?_
    cases h
    exact G.iret dX7_count_147 rfl
  replace h := (if_neg c11).symm.trans h
  refine G.tsCase 12 164 dX7_count_1 (by decide) (by decide) rfl rfl (fun c12 => ?_) (fun c12 => ?_)
  · replace h := (if_pos c12).symm.trans h
    exact eb_xx_count_164  h
  replace h := (if_neg c12).symm.trans h
  refine G.tsCase 13 164 dX7_count_1 (by decide) (by decide) rfl rfl (fun c13 => ?_) (fun c13 => ?_)
  · replace h := (if_pos c13).symm.trans h
    exact eb_xx_count_164  h
  replace h := (if_neg c13).symm.trans h
  refine G.tsCase 14 164 dX7_count_1 (by decide) (by decide) rfl rfl (fun c14 => ?_) (fun c14 => ?_)
  · replace h := (if_pos c14).symm.trans h
    exact eb_xx_count_164  h
  replace h := (if_neg c14).symm.trans h
  refine G.tsCase 15 164 dX7_count_1 (by decide) (by decide) rfl rfl (fun c15 => ?_) (fun c15 => ?_)
  · replace h := (if_pos c15).symm.trans h
    exact eb_xx_count_164  h
  replace h := (if_neg c15).symm.trans h
  refine G.tsCase 16 148 dX7_count_1 (by decide) (by decide) rfl rfl (fun c16 => ?_) (fun c16 => ?_)
  · replace h := (if_pos c16).symm.trans h
    refine G.aload_n (i := 0) dX7_count_148 rfl rfl ?_
    refine G.getR ck7 shX_0 5 rfl (by decide) q241 dX7_count_149 ?_
    refine G.getINN ck2 shX_24 2 rfl (by decide) q159 dX7_count_152 ?_
    cases h
    exact G.iret dX7_count_155 rfl
  replace h := (if_neg c16).symm.trans h
  refine G.tsCase 17 156 dX7_count_1 (by decide) (by decide) rfl rfl (fun c17 => ?_) (fun c17 => ?_)
  · replace h := (if_pos c17).symm.trans h
    refine G.aload_n (i := 0) dX7_count_156 rfl rfl ?_
    refine G.getR ck7 shX_0 7 rfl (by decide) q243 dX7_count_157 ?_
    refine G.getINN ck6 shX_63 1 rfl (by decide) q194 dX7_count_160 ?_
    cases h
    exact G.iret dX7_count_163 rfl
  replace h := (if_neg c17).symm.trans h
  refine G.tsOut 164 dX7_count_1 (by omega) rfl ?_
  exact eb_xx_count_164  h
set_option maxRecDepth 100000 in
theorem eb_xs_removeRule_40 {o1 : Option PV} {o2 : Option PV} {μ : Mem} {res : Mem} (h : xs_removeRule_40 μ = some res) : G shX l D ad ca YX4_removeRule 40 [some (.inr 10), o1, o2] [] μ none res := by
  rw [xs_removeRule_40] at h
  cases h
  exact G.vret dX4_removeRule_40 rfl
set_option maxRecDepth 100000 in
theorem eb_xs_removeRule_12 : ∀ (n : Nat) (x2 : Int) (o1 : Option PV) (μ : Mem) (res : Mem), xs_removeRule_12 n x2 μ = some res → G shX l D ad ca YX4_removeRule 12 [some (.inr 10), o1, some (.inl x2)] [] μ none res := by
  intro n
  induction n with
  | zero =>
    intro x2 o1 μ res h
    rw [xs_removeRule_12] at h
    cases h
  | succ n ih =>
    intro x2 o1 μ res h
    rw [xs_removeRule_12] at h
    refine G.iload_n (i := 2) dX4_removeRule_12 rfl rfl ?_
    refine G.aload_n (i := 0) dX4_removeRule_13 rfl rfl ?_
    refine G.getI ck4 shX_10 5 rfl (by decide) q110 dX4_removeRule_14 ?_
    refine G.icmp_ge 40 dX4_removeRule_17 rfl (fun c => ?_) (fun c => ?_)
    · replace h := (if_pos c).symm.trans h
      exact eb_xs_removeRule_40  h
    · replace h := (if_neg c).symm.trans h
      refine G.aload_n (i := 0) dX4_removeRule_20 rfl rfl ?_
      refine G.getR ck4 shX_10 4 rfl (by decide) q106 dX4_removeRule_21 ?_
      refine G.iload_n (i := 2) dX4_removeRule_24 rfl rfl ?_
      refine G.aload_n (i := 0) dX4_removeRule_25 rfl rfl ?_
      refine G.getR ck4 shX_10 4 rfl (by decide) q106 dX4_removeRule_26 ?_
      refine G.iload_n (i := 2) dX4_removeRule_29 rfl rfl ?_
      refine G.iconst dX4_removeRule_30 ki_1 ?_
      refine G.iadd dX4_removeRule_31 ?_
      obtain ⟨v2, hv, h⟩ := bd h
      obtain ⟨hb, rfl⟩ := aget_some hv
      refine G.iald shX_13 hb dX4_removeRule_32 ?_
      obtain ⟨μ3, hv, h⟩ := bd h
      obtain ⟨hb, rfl⟩ := aput_some hv
      refine G.iast shX_13 hb dX4_removeRule_33 ?_
      replace h := bnd_mp h
      refine G.iinc dX4_removeRule_34 rfl (Nat.le_of_ble_eq_true rfl) ?_
      refine G.goto 12 dX4_removeRule_37 rfl ?_
      exact ih _ _ _ _ h
set_option maxRecDepth 100000 in
theorem e_xs_removeRule {a1 : Int} {μ : Mem} {res : Mem} (h : xs_removeRule a1 μ = some res) : GM shX l D ad ca YX4_removeRule [.inr 10, .inl a1] μ none res := by
  refine GM.of (L := [some (.inr 10), some (.inl a1), none]) (by decide +kernel) rfl (Nat.le_of_ble_eq_true rfl) ?_
  rw [xs_removeRule] at h
  refine G.aload_n (i := 0) dX4_removeRule_0 rfl rfl ?_
  refine G.dup dX4_removeRule_1 ?_
  refine G.getI ck4 shX_10 5 rfl (by decide) q110 dX4_removeRule_2 ?_
  refine G.iconst dX4_removeRule_5 ki_1 ?_
  refine G.isub dX4_removeRule_6 ?_
  replace h := bnd_mp h
  refine G.putI ck4 shX_10 5 rfl (by decide) q110 rfl rfl rfl dX4_removeRule_7 ?_
  refine G.iload_n (i := 1) dX4_removeRule_10 rfl rfl ?_
  refine G.istore_n (i := 2) dX4_removeRule_11 rfl (Nat.le_of_ble_eq_true rfl) ?_
  exact eb_xs_removeRule_12  _ _ _ _ _ h
set_option maxRecDepth 100000 in
theorem eb_xa_dropRule_15 {o1 : Option PV} {μ : Mem} {res : (Int × Mem)} (h : xa_dropRule_15 μ = some res) : G shX l D ad ca YX0_dropRule 15 [some (.inr 61), o1] [] μ (some (.inl res.1)) res.2 := by
  rw [xa_dropRule_15] at h
  refine G.iconst dX0_dropRule_15 ki_m1 ?_
  cases h
  exact G.iret dX0_dropRule_16 rfl
set_option maxRecDepth 100000 in
theorem e_xa_dropRule {a1 : Int} {μ : Mem} {res : (Int × Mem)} (h : xa_dropRule a1 μ = some res) : GM shX l D ad ca YX0_dropRule [.inr 61, .inl a1] μ (some (.inl res.1)) res.2 := by
  refine GM.of (L := [some (.inr 61), some (.inl a1)]) (by decide +kernel) rfl (Nat.le_of_ble_eq_true rfl) ?_
  rw [xa_dropRule] at h
  refine G.iload_n (i := 1) dX0_dropRule_0 rfl rfl ?_
  refine G.if_lt 15 dX0_dropRule_1 rfl (fun c => ?_) (fun c => ?_)
  · replace h := (if_pos c).symm.trans h
    exact eb_xa_dropRule_15  h
  · replace h := (if_neg c).symm.trans h
    refine G.iload_n (i := 1) dX0_dropRule_4 rfl rfl ?_
    refine G.aload_n (i := 0) dX0_dropRule_5 rfl rfl ?_
    refine G.getR ck0 shX_61 0 rfl (by decide) q173 dX0_dropRule_6 ?_
    refine G.getINN ck4 shX_10 5 rfl (by decide) q112 dX0_dropRule_9 ?_
    refine G.icmp_lt 17 dX0_dropRule_12 rfl (fun c => ?_) (fun c => ?_)
    · replace h := (if_pos c).symm.trans h
      refine G.aload_n (i := 0) dX0_dropRule_17 rfl rfl ?_
      refine G.getR ck0 shX_61 0 rfl (by decide) q173 dX0_dropRule_18 ?_
      refine G.iload_n (i := 1) dX0_dropRule_21 rfl rfl ?_
      obtain ⟨μ1, hv, h⟩ := bd h
      refine G.callV (e_xs_removeRule hv) cs_X0_dropRule_X4_removeRule ck4 shX_10 rfl rfl (Nat.le_of_ble_eq_true rfl) q449 q450 q451 dX0_dropRule_22 ?_
      refine G.aload_n (i := 0) dX0_dropRule_25 rfl rfl ?_
      refine G.getR ck0 shX_61 0 rfl (by decide) q173 dX0_dropRule_26 ?_
      refine G.getINN ck4 shX_10 5 rfl (by decide) q112 dX0_dropRule_29 ?_
      cases h
      exact G.iret dX0_dropRule_32 rfl
    · replace h := (if_neg c).symm.trans h
      exact eb_xa_dropRule_15  h
set_option maxRecDepth 100000 in
theorem e_xh_record {μ : Mem} {res : Mem} (h : xh_record μ = some res) : GM shX l D ad ca YX2_record [.inr 24] μ none res := by
  refine GM.of (L := [some (.inr 24)]) (by decide +kernel) rfl (Nat.le_of_ble_eq_true rfl) ?_
  rw [xh_record] at h
  refine G.aload_n (i := 0) dX2_record_0 rfl rfl ?_
  refine G.aload_n (i := 0) dX2_record_1 rfl rfl ?_
  refine G.getI ck2 shX_24 1 rfl (by decide) q157 dX2_record_2 ?_
  refine G.iconst dX2_record_5 ki_1 ?_
  refine G.iadd dX2_record_6 ?_
  refine G.iconst dX2_record_7 ki_5 ?_
  refine G.irem dX2_record_8 (by decide) ?_
  replace h := bnd_mp h
  refine G.putI ck2 shX_24 1 rfl (by decide) q157 rfl rfl rfl dX2_record_9 ?_
  refine G.aload_n (i := 0) dX2_record_12 rfl rfl ?_
  refine G.aload_n (i := 0) dX2_record_13 rfl rfl ?_
  refine G.getI ck2 shX_24 2 rfl (by decide) q158 dX2_record_14 ?_
  refine G.iconst dX2_record_17 ki_1 ?_
  refine G.iadd dX2_record_18 ?_
  refine G.iconst dX2_record_19 ki_4 ?_
  refine G.min q398 q399 q31 q400 (by decide) (by decide) dX2_record_20 ?_
  replace h := bnd_mp h
  replace h := bnd_mp h
  refine G.putI ck2 shX_24 2 rfl (by decide) q158 rfl rfl rfl dX2_record_23 ?_
  cases h
  exact G.vret dX2_record_26 rfl
set_option maxRecDepth 100000 in
theorem eb_xx_ended_11 {x1 : Int} {μ : Mem} {res : (Int × Mem)} (h : xx_ended_11 x1 μ = some res) : G shX l D ad ca YX7_ended 11 [some (.inr 0), some (.inl x1)] [] μ (some (.inl res.1)) res.2 := by
  rw [xx_ended_11] at h
  refine G.iload_n (i := 1) dX7_ended_11 rfl rfl ?_
  cases h
  exact G.iret dX7_ended_12 rfl
set_option maxRecDepth 100000 in
theorem e_xx_ended {a1 : Int} {μ : Mem} {res : (Int × Mem)} (h : xx_ended a1 μ = some res) : GM shX l D ad ca YX7_ended [.inr 0, .inl a1] μ (some (.inl res.1)) res.2 := by
  refine GM.of (L := [some (.inr 0), some (.inl a1)]) (by decide +kernel) rfl (Nat.le_of_ble_eq_true rfl) ?_
  rw [xx_ended] at h
  refine G.iload_n (i := 1) dX7_ended_0 rfl rfl ?_
  refine G.if_lt 11 dX7_ended_1 rfl (fun c => ?_) (fun c => ?_)
  · replace h := (if_pos c).symm.trans h
    exact eb_xx_ended_11  h
  · replace h := (if_neg c).symm.trans h
    refine G.aload_n (i := 0) dX7_ended_4 rfl rfl ?_
    refine G.getR ck7 shX_0 5 rfl (by decide) q241 dX7_ended_5 ?_
    obtain ⟨μ1, hv, h⟩ := bd h
    refine G.callV (e_xh_record hv) cs_X7_ended_X2_record ck2 shX_24 rfl rfl (Nat.le_of_ble_eq_true rfl) q394 q395 q396 dX7_ended_8 ?_
    exact eb_xx_ended_11  h
set_option maxRecDepth 100000 in
theorem eb_xx_drop_33 {s1 : Int} {o1 : Option PV} {o2 : Option PV} {μ : Mem} {res : (Int × Mem)} (h : xx_drop_33 s1 μ = some res) : G shX l D ad ca YX7_drop 33 [some (.inr 0), o1, o2] [.inl s1, .inr 0] μ (some (.inl res.1)) res.2 := by
  rw [xx_drop_33] at h
  obtain ⟨p5, hv, h⟩ := bd h
  refine G.callV (e_xx_ended hv) cs_X7_drop_X7_ended ck7 shX_0 rfl rfl (Nat.le_of_ble_eq_true rfl) q390 q392 q9 dX7_drop_33 ?_
  cases h
  exact G.iret dX7_drop_36 rfl
set_option maxRecDepth 100000 in
theorem e_xx_drop {a1 : Int} {μ : Mem} {res : (Int × Mem)} (h : xx_drop a1 μ = some res) : GM shX l D ad ca YX7_drop [.inr 0, .inl a1] μ (some (.inl res.1)) res.2 := by
  refine GM.of (L := [some (.inr 0), some (.inl a1), none]) (by decide +kernel) rfl (Nat.le_of_ble_eq_true rfl) ?_
  rw [xx_drop] at h
  refine G.aload_n (i := 0) dX7_drop_0 rfl rfl ?_
  refine G.getR ck7 shX_0 5 rfl (by decide) q241 dX7_drop_1 ?_
  refine G.aload_n (i := 0) dX7_drop_4 rfl rfl ?_
  refine G.getR ck7 shX_0 2 rfl (by decide) q238 dX7_drop_5 ?_
  obtain ⟨μ1, hv, h⟩ := bd h
  refine G.callV (e_xh_prepare hv) cs_X7_drop_X2_prepare ck2 shX_24 rfl rfl (Nat.le_of_ble_eq_true rfl) q360 q361 q362 dX7_drop_8 ?_
  refine G.aload_n (i := 0) dX7_drop_11 rfl rfl ?_
  refine G.getR ck7 shX_0 6 rfl (by decide) q242 dX7_drop_12 ?_
  refine G.iload_n (i := 1) dX7_drop_15 rfl rfl ?_
  obtain ⟨p2, hv, h⟩ := bd h
  refine G.callV (e_xa_dropRule hv) cs_X7_drop_X0_dropRule ck0 shX_61 rfl rfl (Nat.le_of_ble_eq_true rfl) q445 q446 q447 dX7_drop_16 ?_
  replace h := bnd_mp h
  refine G.istore_n (i := 2) dX7_drop_19 rfl (Nat.le_of_ble_eq_true rfl) ?_
  refine G.aload_n (i := 0) dX7_drop_20 rfl rfl ?_
  refine G.iload_n (i := 2) dX7_drop_21 rfl rfl ?_
  refine G.if_ge 29 dX7_drop_22 rfl (fun c => ?_) (fun c => ?_)
  · replace h := (if_pos c).symm.trans h
    refine G.aload_n (i := 0) dX7_drop_29 rfl rfl ?_
    obtain ⟨p4, hv, h⟩ := bd h
    refine G.callV (e_xx_strength hv) cs_X7_drop_X7_strength ck7 shX_0 rfl rfl (Nat.le_of_ble_eq_true rfl) q268 q270 q0 dX7_drop_30 ?_
    exact eb_xx_drop_33  h
  · replace h := (if_neg c).symm.trans h
    refine G.iload_n (i := 2) dX7_drop_25 rfl rfl ?_
    refine G.goto 33 dX7_drop_26 rfl ?_
    exact eb_xx_drop_33  h
set_option maxRecDepth 100000 in
theorem eb_xc_spread_97 {o3 : Option PV} {o4 : Option PV} {o5 : Option PV} {μ : Mem} {res : Mem} (h : xc_spread_97 μ = some res) : G shX l D ad ca YX1_spread 97 [some (.inr 66), some (.inr 3), some (.inr 10), o3, o4, o5] [] μ none res := by
  rw [xc_spread_97] at h
  cases h
  exact G.vret dX1_spread_97 rfl
set_option maxRecDepth 100000 in
theorem eb_xc_spread_81 {K14 : Int → Mem → Option Mem} (hK14 : ∀ (x3 : Int) (o4 : Option PV) (o5 : Option PV) (μ : Mem) (res : Mem), K14 x3 μ = some res → G shX l D ad ca YX1_spread 14 [some (.inr 66), some (.inr 3), some (.inr 10), some (.inl x3), o4, o5] [] μ none res) {x3 : Int} {o4 : Option PV} {o5 : Option PV} {μ : Mem} {res : Mem} (h : xc_spread_81 K14 x3 μ = some res) : G shX l D ad ca YX1_spread 81 [some (.inr 66), some (.inr 3), some (.inr 10), some (.inl x3), o4, o5] [] μ none res := by
  rw [xc_spread_81] at h
  refine G.aload_n (i := 0) dX1_spread_81 rfl rfl ?_
  refine G.iconst dX1_spread_82 ki_2 ?_
  refine G.aload_n (i := 0) dX1_spread_83 rfl rfl ?_
  refine G.getI ck1 shX_66 2 rfl (by decide) q224 dX1_spread_84 ?_
  refine G.imul dX1_spread_87 ?_
  replace h := bnd_mp h
  refine G.putI ck1 shX_66 2 rfl (by decide) q224 rfl rfl rfl dX1_spread_88 ?_
  replace h := bnd_mp h
  refine G.iinc dX1_spread_91 rfl (Nat.le_of_ble_eq_true rfl) ?_
  refine G.goto 14 dX1_spread_94 rfl ?_
  exact hK14 _ _ _ _ _ h
set_option maxRecDepth 100000 in
theorem eb_xc_spread_37 {K14 : Int → Mem → Option Mem} (hK14 : ∀ (x3 : Int) (o4 : Option PV) (o5 : Option PV) (μ : Mem) (res : Mem), K14 x3 μ = some res → G shX l D ad ca YX1_spread 14 [some (.inr 66), some (.inr 3), some (.inr 10), some (.inl x3), o4, o5] [] μ none res) : ∀ (n : Nat) (x3 : Int) (x4 : Int) (x5 : Int) (μ : Mem) (res : Mem), xc_spread_37 K14 n x3 x4 x5 μ = some res → G shX l D ad ca YX1_spread 37 [some (.inr 66), some (.inr 3), some (.inr 10), some (.inl x3), some (.inl x4), some (.inl x5)] [] μ none res := by
  intro n
  induction n with
  | zero =>
    intro x3 x4 x5 μ res h
    rw [xc_spread_37] at h
    cases h
  | succ n ih =>
    intro x3 x4 x5 μ res h
    rw [xc_spread_37] at h
    refine G.iload dX1_spread_37 rfl ?_
    refine G.aload_n (i := 0) dX1_spread_39 rfl rfl ?_
    refine G.getI ck1 shX_66 2 rfl (by decide) q224 dX1_spread_40 ?_
    refine G.icmp_ge 81 dX1_spread_43 rfl (fun c => ?_) (fun c => ?_)
    · replace h := (if_pos c).symm.trans h
      exact eb_xc_spread_81 hK14 h
    · replace h := (if_neg c).symm.trans h
      refine G.aload_n (i := 0) dX1_spread_46 rfl rfl ?_
      refine G.getR ck1 shX_66 1 rfl (by decide) q223 dX1_spread_47 ?_
      refine G.aload_n (i := 0) dX1_spread_50 rfl rfl ?_
      refine G.getI ck1 shX_66 2 rfl (by decide) q224 dX1_spread_51 ?_
      refine G.iload dX1_spread_54 rfl ?_
      refine G.iadd dX1_spread_56 ?_
      refine G.aload_n (i := 0) dX1_spread_57 rfl rfl ?_
      refine G.getR ck1 shX_66 0 rfl (by decide) q222 dX1_spread_58 ?_
      refine G.aload_n (i := 0) dX1_spread_61 rfl rfl ?_
      refine G.getR ck1 shX_66 1 rfl (by decide) q223 dX1_spread_62 ?_
      refine G.iload dX1_spread_65 rfl ?_
      obtain ⟨v7, hv, h⟩ := bd h
      obtain ⟨hb, rfl⟩ := aget_some hv
      refine G.sald shX_67 hb dX1_spread_67 ?_
      refine G.iload dX1_spread_68 rfl ?_
      obtain ⟨v8, hv, h⟩ := bd h
      refine G.callV (e_xj_join hv) cs_X1_spread_X3_join ck3 shX_1 rfl rfl (Nat.le_of_ble_eq_true rfl) q589 q297 q298 dX1_spread_70 ?_
      refine G.i2s dX1_spread_73 ?_
      obtain ⟨μ9, hv, h⟩ := bd h
      obtain ⟨hb, rfl⟩ := aput_some hv
      refine G.sast shX_67 hb dX1_spread_74 ?_
      replace h := bnd_mp h
      refine G.iinc dX1_spread_75 rfl (Nat.le_of_ble_eq_true rfl) ?_
      refine G.goto 37 dX1_spread_78 rfl ?_
      exact ih _ _ _ _ _ h
set_option maxRecDepth 100000 in
theorem eb_xc_spread_14 : ∀ (n : Nat) (x3 : Int) (o4 : Option PV) (o5 : Option PV) (μ : Mem) (res : Mem), xc_spread_14 n x3 μ = some res → G shX l D ad ca YX1_spread 14 [some (.inr 66), some (.inr 3), some (.inr 10), some (.inl x3), o4, o5] [] μ none res := by
  intro n
  induction n with
  | zero =>
    intro x3 o4 o5 μ res h
    rw [xc_spread_14] at h
    cases h
  | succ n ih =>
    intro x3 o4 o5 μ res h
    rw [xc_spread_14] at h
    refine G.iload_n (i := 3) dX1_spread_14 rfl rfl ?_
    refine G.aload_n (i := 2) dX1_spread_15 rfl rfl ?_
    refine G.getINN ck4 shX_10 2 rfl (by decide) q102 dX1_spread_16 ?_
    refine G.icmp_ge 97 dX1_spread_19 rfl (fun c => ?_) (fun c => ?_)
    · replace h := (if_pos c).symm.trans h
      exact eb_xc_spread_97  h
    · replace h := (if_neg c).symm.trans h
      refine G.aload_n (i := 1) dX1_spread_22 rfl rfl ?_
      refine G.aload_n (i := 2) dX1_spread_23 rfl rfl ?_
      refine G.getRN ck4 shX_10 1 rfl (by decide) q97 dX1_spread_24 ?_
      refine G.iload_n (i := 3) dX1_spread_27 rfl rfl ?_
      obtain ⟨v3, hv, h⟩ := bd h
      obtain ⟨hb, rfl⟩ := aget_some hv
      refine G.iald shX_12 hb dX1_spread_28 ?_
      obtain ⟨v4, hv, h⟩ := bd h
      refine G.callV (e_xt_leastLike hv) cs_X1_spread_X5_leastLike ck5 shX_3 rfl rfl (Nat.le_of_ble_eq_true rfl) q588 q322 q323 dX1_spread_29 ?_
      refine G.istore dX1_spread_32 (Nat.le_of_ble_eq_true rfl) ?_
      refine G.iconst dX1_spread_34 ki_0 ?_
      refine G.istore dX1_spread_35 (Nat.le_of_ble_eq_true rfl) ?_
      exact eb_xc_spread_37 ih _ _ _ _ _ _ h
set_option maxRecDepth 100000 in
theorem e_xc_spread {μ : Mem} {res : Mem} (h : xc_spread μ = some res) : GM shX l D ad ca YX1_spread [.inr 66, .inr 3, .inr 10] μ none res := by
  refine GM.of (L := [some (.inr 66), some (.inr 3), some (.inr 10), none, none, none]) (by decide +kernel) rfl (Nat.le_of_ble_eq_true rfl) ?_
  rw [xc_spread] at h
  refine G.aload_n (i := 0) dX1_spread_0 rfl rfl ?_
  refine G.getR ck1 shX_66 1 rfl (by decide) q223 dX1_spread_1 ?_
  refine G.iconst dX1_spread_4 ki_0 ?_
  refine G.iconst dX1_spread_5 ki_0 ?_
  obtain ⟨μ1, hv, h⟩ := bd h
  obtain ⟨hb, rfl⟩ := aput_some hv
  refine G.sast shX_67 hb dX1_spread_6 ?_
  refine G.aload_n (i := 0) dX1_spread_7 rfl rfl ?_
  refine G.iconst dX1_spread_8 ki_1 ?_
  replace h := bnd_mp h
  refine G.putI ck1 shX_66 2 rfl (by decide) q224 rfl rfl rfl dX1_spread_9 ?_
  refine G.iconst dX1_spread_12 ki_0 ?_
  refine G.istore_n (i := 3) dX1_spread_13 rfl (Nat.le_of_ble_eq_true rfl) ?_
  exact eb_xc_spread_14  _ _ _ _ _ _ h
set_option maxRecDepth 100000 in
theorem e_jb_bitCount {a1 : Int} {μ : Mem} {res : Int} (h : jb_bitCount a1 = some res) : GM shX l D ad ca YJ6_bitCount_0f7a4 [.inl a1] μ (some (.inl res)) μ := by
  refine GM.of (L := [some (.inl a1)]) (by decide +kernel) rfl (Nat.le_of_ble_eq_true rfl) ?_
  rw [jb_bitCount] at h
  refine G.iload_n (i := 0) dJ6_bitCount_0f7a4_0 rfl rfl ?_
  refine G.iload_n (i := 0) dJ6_bitCount_0f7a4_1 rfl rfl ?_
  refine G.iconst dJ6_bitCount_0f7a4_2 ki_1 ?_
  refine G.iushr dJ6_bitCount_0f7a4_3 ?_
  refine G.ldcw (n := 1431655765) dJ6_bitCount_0f7a4_4 q597 ki_1431655765 ?_
  refine G.iand dJ6_bitCount_0f7a4_7 ?_
  refine G.isub dJ6_bitCount_0f7a4_8 ?_
  replace h := bnd_mp h
  refine G.istore_n (i := 0) dJ6_bitCount_0f7a4_9 rfl (Nat.le_of_ble_eq_true rfl) ?_
  refine G.iload_n (i := 0) dJ6_bitCount_0f7a4_10 rfl rfl ?_
  refine G.ldcw (n := 858993459) dJ6_bitCount_0f7a4_11 q598 ki_858993459 ?_
  refine G.iand dJ6_bitCount_0f7a4_14 ?_
  refine G.iload_n (i := 0) dJ6_bitCount_0f7a4_15 rfl rfl ?_
  refine G.iconst dJ6_bitCount_0f7a4_16 ki_2 ?_
  refine G.iushr dJ6_bitCount_0f7a4_17 ?_
  refine G.ldcw (n := 858993459) dJ6_bitCount_0f7a4_18 q598 ki_858993459 ?_
  refine G.iand dJ6_bitCount_0f7a4_21 ?_
  refine G.iadd dJ6_bitCount_0f7a4_22 ?_
  replace h := bnd_mp h
  refine G.istore_n (i := 0) dJ6_bitCount_0f7a4_23 rfl (Nat.le_of_ble_eq_true rfl) ?_
  refine G.iload_n (i := 0) dJ6_bitCount_0f7a4_24 rfl rfl ?_
  refine G.iload_n (i := 0) dJ6_bitCount_0f7a4_25 rfl rfl ?_
  refine G.iconst dJ6_bitCount_0f7a4_26 ki_4 ?_
  refine G.iushr dJ6_bitCount_0f7a4_27 ?_
  refine G.iadd dJ6_bitCount_0f7a4_28 ?_
  refine G.ldcw (n := 252645135) dJ6_bitCount_0f7a4_29 q599 ki_252645135 ?_
  refine G.iand dJ6_bitCount_0f7a4_32 ?_
  replace h := bnd_mp h
  refine G.istore_n (i := 0) dJ6_bitCount_0f7a4_33 rfl (Nat.le_of_ble_eq_true rfl) ?_
  refine G.iload_n (i := 0) dJ6_bitCount_0f7a4_34 rfl rfl ?_
  refine G.iload_n (i := 0) dJ6_bitCount_0f7a4_35 rfl rfl ?_
  refine G.bipush dJ6_bitCount_0f7a4_36 kb_8 ?_
  refine G.iushr dJ6_bitCount_0f7a4_38 ?_
  refine G.iadd dJ6_bitCount_0f7a4_39 ?_
  replace h := bnd_mp h
  refine G.istore_n (i := 0) dJ6_bitCount_0f7a4_40 rfl (Nat.le_of_ble_eq_true rfl) ?_
  refine G.iload_n (i := 0) dJ6_bitCount_0f7a4_41 rfl rfl ?_
  refine G.iload_n (i := 0) dJ6_bitCount_0f7a4_42 rfl rfl ?_
  refine G.bipush dJ6_bitCount_0f7a4_43 kb_16 ?_
  refine G.iushr dJ6_bitCount_0f7a4_45 ?_
  refine G.iadd dJ6_bitCount_0f7a4_46 ?_
  replace h := bnd_mp h
  refine G.istore_n (i := 0) dJ6_bitCount_0f7a4_47 rfl (Nat.le_of_ble_eq_true rfl) ?_
  refine G.iload_n (i := 0) dJ6_bitCount_0f7a4_48 rfl rfl ?_
  refine G.bipush dJ6_bitCount_0f7a4_49 kb_63 ?_
  refine G.iand dJ6_bitCount_0f7a4_51 ?_
  cases h
  exact G.iret dJ6_bitCount_0f7a4_52 rfl
set_option maxRecDepth 100000 in
theorem eb_xc_smallestLike_53 {x2 : Int} {o1 : Option PV} {o3 : Option PV} {o4 : Option PV} {μ : Mem} {res : Int} (h : xc_smallestLike_53 x2 μ = some res) : G shX l D ad ca YX1_smallestLike 53 [some (.inr 66), o1, some (.inl x2), o3, o4] [] μ (some (.inl res)) μ := by
  rw [xc_smallestLike_53] at h
  refine G.iload_n (i := 2) dX1_smallestLike_53 rfl rfl ?_
  cases h
  exact G.iret dX1_smallestLike_54 rfl
set_option maxRecDepth 100000 in
theorem eb_xc_smallestLike_47 {K9 : Int → Int → Int → Int → Mem → Option Int} (hK9 : ∀ (x1 : Int) (x2 : Int) (x3 : Int) (x4 : Int) (μ : Mem) (res : Int), K9 x1 x2 x3 x4 μ = some res → G shX l D ad ca YX1_smallestLike 9 [some (.inr 66), some (.inl x1), some (.inl x2), some (.inl x3), some (.inl x4)] [] μ (some (.inl res)) μ) {x1 : Int} {x2 : Int} {x3 : Int} {x4 : Int} {μ : Mem} {res : Int} (h : xc_smallestLike_47 K9 x1 x2 x3 x4 μ = some res) : G shX l D ad ca YX1_smallestLike 47 [some (.inr 66), some (.inl x1), some (.inl x2), some (.inl x3), some (.inl x4)] [] μ (some (.inl res)) μ := by
  rw [xc_smallestLike_47] at h
  replace h := bnd_mp h
  refine G.iinc dX1_smallestLike_47 rfl (Nat.le_of_ble_eq_true rfl) ?_
  refine G.goto 9 dX1_smallestLike_50 rfl ?_
  exact hK9 _ _ _ _ _ _ h
set_option maxRecDepth 100000 in
theorem eb_xc_smallestLike_9 : ∀ (n : Nat) (x1 : Int) (x2 : Int) (x3 : Int) (x4 : Int) (μ : Mem) (res : Int), xc_smallestLike_9 n x1 x2 x3 x4 μ = some res → G shX l D ad ca YX1_smallestLike 9 [some (.inr 66), some (.inl x1), some (.inl x2), some (.inl x3), some (.inl x4)] [] μ (some (.inl res)) μ := by
  intro n
  induction n with
  | zero =>
    intro x1 x2 x3 x4 μ res h
    rw [xc_smallestLike_9] at h
    cases h
  | succ n ih =>
    intro x1 x2 x3 x4 μ res h
    rw [xc_smallestLike_9] at h
    refine G.iload dX1_smallestLike_9 rfl ?_
    refine G.aload_n (i := 0) dX1_smallestLike_11 rfl rfl ?_
    refine G.getI ck1 shX_66 2 rfl (by decide) q224 dX1_smallestLike_12 ?_
    refine G.icmp_ge 53 dX1_smallestLike_15 rfl (fun c => ?_) (fun c => ?_)
    · replace h := (if_pos c).symm.trans h
      exact eb_xc_smallestLike_53  h
    · replace h := (if_neg c).symm.trans h
      refine G.aload_n (i := 0) dX1_smallestLike_18 rfl rfl ?_
      refine G.getR ck1 shX_66 1 rfl (by decide) q223 dX1_smallestLike_19 ?_
      refine G.iload dX1_smallestLike_22 rfl ?_
      obtain ⟨v1, hv, h⟩ := bd h
      obtain ⟨hb, rfl⟩ := aget_some hv
      refine G.sald shX_67 hb dX1_smallestLike_24 ?_
      refine G.iload_n (i := 1) dX1_smallestLike_25 rfl rfl ?_
      refine G.icmp_ne 47 dX1_smallestLike_26 rfl (fun c => ?_) (fun c => ?_)
      · replace h := (if_neg c).symm.trans h
        exact eb_xc_smallestLike_47 ih h
      · replace h := (if_pos c).symm.trans h
        refine G.iload dX1_smallestLike_29 rfl ?_
        obtain ⟨v3, hv, h⟩ := bd h
        refine G.callS (e_jb_bitCount hv) cs_X1_smallestLike_J6_bitCount_0f7a4 rfl (Nat.le_of_ble_eq_true rfl) q594 q595 dX1_smallestLike_31 ?_
        refine G.iload_n (i := 3) dX1_smallestLike_34 rfl rfl ?_
        refine G.icmp_ge 47 dX1_smallestLike_35 rfl (fun c => ?_) (fun c => ?_)
        · replace h := (if_pos c).symm.trans h
          exact eb_xc_smallestLike_47 ih h
        · replace h := (if_neg c).symm.trans h
          refine G.iload dX1_smallestLike_38 rfl ?_
          refine G.istore_n (i := 2) dX1_smallestLike_40 rfl (Nat.le_of_ble_eq_true rfl) ?_
          refine G.iload dX1_smallestLike_41 rfl ?_
          obtain ⟨v4, hv, h⟩ := bd h
          refine G.callS (e_jb_bitCount hv) cs_X1_smallestLike_J6_bitCount_0f7a4 rfl (Nat.le_of_ble_eq_true rfl) q594 q595 dX1_smallestLike_43 ?_
          refine G.istore_n (i := 3) dX1_smallestLike_46 rfl (Nat.le_of_ble_eq_true rfl) ?_
          exact eb_xc_smallestLike_47 ih h
set_option maxRecDepth 100000 in
theorem e_xc_smallestLike {a1 : Int} {μ : Mem} {res : Int} (h : xc_smallestLike a1 μ = some res) : GM shX l D ad ca YX1_smallestLike [.inr 66, .inl a1] μ (some (.inl res)) μ := by
  refine GM.of (L := [some (.inr 66), some (.inl a1), none, none, none]) (by decide +kernel) rfl (Nat.le_of_ble_eq_true rfl) ?_
  rw [xc_smallestLike] at h
  refine G.bipush dX1_smallestLike_0 kb_m5 ?_
  refine G.istore_n (i := 2) dX1_smallestLike_2 rfl (Nat.le_of_ble_eq_true rfl) ?_
  refine G.bipush dX1_smallestLike_3 kb_13 ?_
  refine G.istore_n (i := 3) dX1_smallestLike_5 rfl (Nat.le_of_ble_eq_true rfl) ?_
  refine G.iconst dX1_smallestLike_6 ki_0 ?_
  refine G.istore dX1_smallestLike_7 (Nat.le_of_ble_eq_true rfl) ?_
  exact eb_xc_smallestLike_9  _ _ _ _ _ _ _ h
set_option maxRecDepth 100000 in
theorem eb_xx_fewest_16 {o1 : Option PV} {o2 : Option PV} {o3 : Option PV} {μ : Mem} {res : (Int × Mem)} (h : xx_fewest_16 μ = some res) : G shX l D ad ca YX7_fewest 16 [some (.inr 0), o1, o2, o3] [] μ (some (.inl res.1)) res.2 := by
  rw [xx_fewest_16] at h
  refine G.bipush dX7_fewest_16 kb_m2 ?_
  cases h
  exact G.iret dX7_fewest_18 rfl
set_option maxRecDepth 100000 in
theorem eb_xx_fewest_80 {s0 : Int} {o1 : Option PV} {o2 : Option PV} {o3 : Option PV} {μ : Mem} {res : (Int × Mem)} (h : xx_fewest_80 s0 μ = some res) : G shX l D ad ca YX7_fewest 80 [some (.inr 0), o1, o2, o3] [.inl s0] μ (some (.inl res.1)) res.2 := by
  rw [xx_fewest_80] at h
  cases h
  exact G.iret dX7_fewest_80 rfl
set_option maxRecDepth 100000 in
theorem e_xx_fewest {a1 : Int} {a2 : Int} {μ : Mem} {res : (Int × Mem)} (h : xx_fewest a1 a2 μ = some res) : GM shX l D ad ca YX7_fewest [.inr 0, .inl a1, .inl a2] μ (some (.inl res.1)) res.2 := by
  refine GM.of (L := [some (.inr 0), some (.inl a1), some (.inl a2), none]) (by decide +kernel) rfl (Nat.le_of_ble_eq_true rfl) ?_
  rw [xx_fewest] at h
  refine G.iload_n (i := 1) dX7_fewest_0 rfl rfl ?_
  obtain ⟨v1, hv, h⟩ := bd h
  refine G.callS (e_xx_isMix hv) cs_X7_fewest_X7_isMix rfl (Nat.le_of_ble_eq_true rfl) q534 q374 dX7_fewest_1 ?_
  refine G.if_eq 16 dX7_fewest_4 rfl (fun c => ?_) (fun c => ?_)
  · replace h := (if_pos c).symm.trans h
    exact eb_xx_fewest_16  h
  · replace h := (if_neg c).symm.trans h
    refine G.iload_n (i := 2) dX7_fewest_7 rfl rfl ?_
    refine G.if_lt 16 dX7_fewest_8 rfl (fun c => ?_) (fun c => ?_)
    · replace h := (if_pos c).symm.trans h
      exact eb_xx_fewest_16  h
    · replace h := (if_neg c).symm.trans h
      refine G.iload_n (i := 2) dX7_fewest_11 rfl rfl ?_
      refine G.iconst dX7_fewest_12 ki_1 ?_
      refine G.icmp_le 19 dX7_fewest_13 rfl (fun c => ?_) (fun c => ?_)
      · replace h := (if_pos c).symm.trans h
        refine G.aload_n (i := 0) dX7_fewest_19 rfl rfl ?_
        refine G.getR ck7 shX_0 1 rfl (by decide) q237 dX7_fewest_20 ?_
        refine G.aload_n (i := 0) dX7_fewest_23 rfl rfl ?_
        refine G.getR ck7 shX_0 2 rfl (by decide) q238 dX7_fewest_24 ?_
        obtain ⟨μ2, hv, h⟩ := bd h
        refine G.callV (e_xt_learn hv) cs_X7_fewest_X5_learn ck5 shX_3 rfl rfl (Nat.le_of_ble_eq_true rfl) q272 q273 q274 dX7_fewest_27 ?_
        refine G.aload_n (i := 0) dX7_fewest_30 rfl rfl ?_
        refine G.getR ck7 shX_0 8 rfl (by decide) q244 dX7_fewest_31 ?_
        refine G.aload_n (i := 0) dX7_fewest_34 rfl rfl ?_
        refine G.getR ck7 shX_0 1 rfl (by decide) q237 dX7_fewest_35 ?_
        refine G.aload_n (i := 0) dX7_fewest_38 rfl rfl ?_
        refine G.getR ck7 shX_0 2 rfl (by decide) q238 dX7_fewest_39 ?_
        obtain ⟨μ3, hv, h⟩ := bd h
        refine G.callV (e_xc_spread hv) cs_X7_fewest_X1_spread ck1 shX_66 rfl rfl (Nat.le_of_ble_eq_true rfl) q584 q585 q586 dX7_fewest_42 ?_
        refine G.aload_n (i := 0) dX7_fewest_45 rfl rfl ?_
        refine G.getR ck7 shX_0 8 rfl (by decide) q244 dX7_fewest_46 ?_
        refine G.aload_n (i := 0) dX7_fewest_49 rfl rfl ?_
        refine G.getR ck7 shX_0 1 rfl (by decide) q237 dX7_fewest_50 ?_
        refine G.iload_n (i := 1) dX7_fewest_53 rfl rfl ?_
        obtain ⟨v4, hv, h⟩ := bd h
        refine G.callV (e_xt_leastLike hv) cs_X7_fewest_X5_leastLike ck5 shX_3 rfl rfl (Nat.le_of_ble_eq_true rfl) q321 q322 q323 dX7_fewest_54 ?_
        obtain ⟨v5, hv, h⟩ := bd h
        refine G.callV (e_xc_smallestLike hv) cs_X7_fewest_X1_smallestLike ck1 shX_66 rfl rfl (Nat.le_of_ble_eq_true rfl) q590 q591 q592 dX7_fewest_57 ?_
        refine G.istore_n (i := 3) dX7_fewest_60 rfl (Nat.le_of_ble_eq_true rfl) ?_
        refine G.iload_n (i := 3) dX7_fewest_61 rfl rfl ?_
        refine G.if_ge 68 dX7_fewest_62 rfl (fun c => ?_) (fun c => ?_)
        · replace h := (if_pos c).symm.trans h
          refine G.iload_n (i := 2) dX7_fewest_68 rfl rfl ?_
          refine G.if_ne 79 dX7_fewest_69 rfl (fun c => ?_) (fun c => ?_)
          · replace h := (if_neg c).symm.trans h
            refine G.iload_n (i := 3) dX7_fewest_79 rfl rfl ?_
            exact eb_xx_fewest_80  h
          · replace h := (if_pos c).symm.trans h
            refine G.iload_n (i := 3) dX7_fewest_72 rfl rfl ?_
            obtain ⟨v6, hv, h⟩ := bd h
            refine G.callS (e_jb_bitCount hv) cs_X7_fewest_J6_bitCount_0f7a4 rfl (Nat.le_of_ble_eq_true rfl) q600 q595 dX7_fewest_73 ?_
            refine G.goto 80 dX7_fewest_76 rfl ?_
            exact eb_xx_fewest_80  h
        · replace h := (if_neg c).symm.trans h
          refine G.bipush dX7_fewest_65 kb_m5 ?_
          cases h
          exact G.iret dX7_fewest_67 rfl
      · replace h := (if_neg c).symm.trans h
        exact eb_xx_fewest_16  h
set_option maxRecDepth 100000 in
theorem eb_xs_placeOf_28 {o1 : Option PV} {o2 : Option PV} {μ : Mem} {res : Int} (h : xs_placeOf_28 μ = some res) : G shX l D ad ca YX4_placeOf 28 [some (.inr 10), o1, o2] [] μ (some (.inl res)) μ := by
  rw [xs_placeOf_28] at h
  refine G.iconst dX4_placeOf_28 ki_m1 ?_
  cases h
  exact G.iret dX4_placeOf_29 rfl
set_option maxRecDepth 100000 in
theorem eb_xs_placeOf_20 {x2 : Int} {o1 : Option PV} {μ : Mem} {res : Int} (h : xs_placeOf_20 x2 μ = some res) : G shX l D ad ca YX4_placeOf 20 [some (.inr 10), o1, some (.inl x2)] [] μ (some (.inl res)) μ := by
  rw [xs_placeOf_20] at h
  refine G.iload_n (i := 2) dX4_placeOf_20 rfl rfl ?_
  cases h
  exact G.iret dX4_placeOf_21 rfl
set_option maxRecDepth 100000 in
theorem eb_xs_placeOf_2 : ∀ (n : Nat) (x1 : Int) (x2 : Int) (μ : Mem) (res : Int), xs_placeOf_2 n x1 x2 μ = some res → G shX l D ad ca YX4_placeOf 2 [some (.inr 10), some (.inl x1), some (.inl x2)] [] μ (some (.inl res)) μ := by
  intro n
  induction n with
  | zero =>
    intro x1 x2 μ res h
    rw [xs_placeOf_2] at h
    cases h
  | succ n ih =>
    intro x1 x2 μ res h
    rw [xs_placeOf_2] at h
    refine G.iload_n (i := 2) dX4_placeOf_2 rfl rfl ?_
    refine G.aload_n (i := 0) dX4_placeOf_3 rfl rfl ?_
    refine G.getI ck4 shX_10 2 rfl (by decide) q101 dX4_placeOf_4 ?_
    refine G.icmp_ge 28 dX4_placeOf_7 rfl (fun c => ?_) (fun c => ?_)
    · replace h := (if_pos c).symm.trans h
      exact eb_xs_placeOf_28  h
    · replace h := (if_neg c).symm.trans h
      refine G.aload_n (i := 0) dX4_placeOf_10 rfl rfl ?_
      refine G.getR ck4 shX_10 0 rfl (by decide) q94 dX4_placeOf_11 ?_
      refine G.iload_n (i := 2) dX4_placeOf_14 rfl rfl ?_
      obtain ⟨v1, hv, h⟩ := bd h
      obtain ⟨hb, rfl⟩ := aget_some hv
      refine G.iald shX_11 hb dX4_placeOf_15 ?_
      refine G.iload_n (i := 1) dX4_placeOf_16 rfl rfl ?_
      refine G.icmp_ne 22 dX4_placeOf_17 rfl (fun c => ?_) (fun c => ?_)
      · replace h := (if_neg c).symm.trans h
        replace h := bnd_mp h
        refine G.iinc dX4_placeOf_22 rfl (Nat.le_of_ble_eq_true rfl) ?_
        refine G.goto 2 dX4_placeOf_25 rfl ?_
        exact ih _ _ _ _ h
      · replace h := (if_pos c).symm.trans h
        exact eb_xs_placeOf_20  h
set_option maxRecDepth 100000 in
theorem e_xs_placeOf {a1 : Int} {μ : Mem} {res : Int} (h : xs_placeOf a1 μ = some res) : GM shX l D ad ca YX4_placeOf [.inr 10, .inl a1] μ (some (.inl res)) μ := by
  refine GM.of (L := [some (.inr 10), some (.inl a1), none]) (by decide +kernel) rfl (Nat.le_of_ble_eq_true rfl) ?_
  rw [xs_placeOf] at h
  refine G.iconst dX4_placeOf_0 ki_0 ?_
  refine G.istore_n (i := 2) dX4_placeOf_1 rfl (Nat.le_of_ble_eq_true rfl) ?_
  exact eb_xs_placeOf_2  _ _ _ _ _ h
set_option maxRecDepth 100000 in
theorem eb_xx_ifPoured_28 {o1 : Option PV} {o2 : Option PV} {o3 : Option PV} {o4 : Option PV} {μ : Mem} {res : (Int × Mem)} (h : xx_ifPoured_28 μ = some res) : G shX l D ad ca YX7_ifPoured 28 [some (.inr 0), o1, o2, o3, o4] [] μ (some (.inl res.1)) res.2 := by
  rw [xx_ifPoured_28] at h
  refine G.iconst dX7_ifPoured_28 ki_m1 ?_
  cases h
  exact G.iret dX7_ifPoured_29 rfl
set_option maxRecDepth 100000 in
theorem e_xx_ifPoured {a1 : Int} {a2 : Int} {μ : Mem} {res : (Int × Mem)} (h : xx_ifPoured a1 a2 μ = some res) : GM shX l D ad ca YX7_ifPoured [.inr 0, .inl a1, .inl a2] μ (some (.inl res.1)) res.2 := by
  refine GM.of (L := [some (.inr 0), some (.inl a1), some (.inl a2), none, none]) (by decide +kernel) rfl (Nat.le_of_ble_eq_true rfl) ?_
  rw [xx_ifPoured] at h
  refine G.aload_n (i := 0) dX7_ifPoured_0 rfl rfl ?_
  refine G.getR ck7 shX_0 2 rfl (by decide) q238 dX7_ifPoured_1 ?_
  refine G.iload_n (i := 1) dX7_ifPoured_4 rfl rfl ?_
  obtain ⟨v1, hv, h⟩ := bd h
  refine G.callV (e_xs_placeOf hv) cs_X7_ifPoured_X4_placeOf ck4 shX_10 rfl rfl (Nat.le_of_ble_eq_true rfl) q473 q410 q411 dX7_ifPoured_5 ?_
  refine G.istore_n (i := 3) dX7_ifPoured_8 rfl (Nat.le_of_ble_eq_true rfl) ?_
  refine G.aload_n (i := 0) dX7_ifPoured_9 rfl rfl ?_
  refine G.getR ck7 shX_0 2 rfl (by decide) q238 dX7_ifPoured_10 ?_
  refine G.iload_n (i := 2) dX7_ifPoured_13 rfl rfl ?_
  obtain ⟨v2, hv, h⟩ := bd h
  refine G.callV (e_xs_placeOf hv) cs_X7_ifPoured_X4_placeOf ck4 shX_10 rfl rfl (Nat.le_of_ble_eq_true rfl) q473 q410 q411 dX7_ifPoured_14 ?_
  refine G.istore dX7_ifPoured_17 (Nat.le_of_ble_eq_true rfl) ?_
  refine G.iload_n (i := 3) dX7_ifPoured_19 rfl rfl ?_
  refine G.if_lt 28 dX7_ifPoured_20 rfl (fun c => ?_) (fun c => ?_)
  · replace h := (if_pos c).symm.trans h
    exact eb_xx_ifPoured_28  h
  · replace h := (if_neg c).symm.trans h
    refine G.iload dX7_ifPoured_23 rfl ?_
    refine G.if_ge 30 dX7_ifPoured_25 rfl (fun c => ?_) (fun c => ?_)
    · replace h := (if_pos c).symm.trans h
      refine G.iload_n (i := 3) dX7_ifPoured_30 rfl rfl ?_
      refine G.iload dX7_ifPoured_31 rfl ?_
      refine G.icmp_ne 39 dX7_ifPoured_33 rfl (fun c => ?_) (fun c => ?_)
      · replace h := (if_neg c).symm.trans h
        refine G.aload_n (i := 0) dX7_ifPoured_39 rfl rfl ?_
        refine G.aload_n (i := 0) dX7_ifPoured_40 rfl rfl ?_
        refine G.getR ck7 shX_0 0 rfl (by decide) q236 dX7_ifPoured_41 ?_
        refine G.aload_n (i := 0) dX7_ifPoured_44 rfl rfl ?_
        refine G.getR ck7 shX_0 2 rfl (by decide) q238 dX7_ifPoured_45 ?_
        refine G.getRN ck4 shX_10 1 rfl (by decide) q100 dX7_ifPoured_48 ?_
        refine G.iload_n (i := 3) dX7_ifPoured_51 rfl rfl ?_
        obtain ⟨v3, hv, h⟩ := bd h
        obtain ⟨hb, rfl⟩ := aget_some hv
        refine G.iald shX_12 hb dX7_ifPoured_52 ?_
        refine G.aload_n (i := 0) dX7_ifPoured_53 rfl rfl ?_
        refine G.getR ck7 shX_0 2 rfl (by decide) q238 dX7_ifPoured_54 ?_
        refine G.getRN ck4 shX_10 1 rfl (by decide) q100 dX7_ifPoured_57 ?_
        refine G.iload dX7_ifPoured_60 rfl ?_
        obtain ⟨v4, hv, h⟩ := bd h
        obtain ⟨hb, rfl⟩ := aget_some hv
        refine G.iald shX_12 hb dX7_ifPoured_62 ?_
        obtain ⟨v5, hv, h⟩ := bd h
        refine G.callV (e_xj_join hv) cs_X7_ifPoured_X3_join ck3 shX_1 rfl rfl (Nat.le_of_ble_eq_true rfl) q564 q297 q298 dX7_ifPoured_63 ?_
        obtain ⟨p6, hv, h⟩ := bd h
        refine G.callV (e_xx_tasteOf hv) cs_X7_ifPoured_X7_tasteOf ck7 shX_0 rfl rfl (Nat.le_of_ble_eq_true rfl) q475 q477 q11 dX7_ifPoured_66 ?_
        cases h
        exact G.iret dX7_ifPoured_69 rfl
      · replace h := (if_pos c).symm.trans h
        refine G.bipush dX7_ifPoured_36 kb_m2 ?_
        cases h
        exact G.iret dX7_ifPoured_38 rfl
    · replace h := (if_neg c).symm.trans h
      exact eb_xx_ifPoured_28  h
set_option maxRecDepth 100000 in
theorem eb_xs_hasRoomForJar_24 {s0 : Int} {μ : Mem} {res : Int} (h : xs_hasRoomForJar_24 s0 μ = some res) : G shX l D ad ca YX4_hasRoomForJar 24 [some (.inr 10)] [.inl s0] μ (some (.inl res)) μ := by
  rw [xs_hasRoomForJar_24] at h
  obtain ⟨hz, h⟩ := ite_yn h
  cases h
  exact G.zret .boolean dX4_hasRoomForJar_24 rfl (nar_z hz)
set_option maxRecDepth 100000 in
theorem eb_xs_hasRoomForJar_23 {μ : Mem} {res : Int} (h : xs_hasRoomForJar_23 μ = some res) : G shX l D ad ca YX4_hasRoomForJar 23 [some (.inr 10)] [] μ (some (.inl res)) μ := by
  rw [xs_hasRoomForJar_23] at h
  refine G.iconst dX4_hasRoomForJar_23 ki_0 ?_
  exact eb_xs_hasRoomForJar_24  h
set_option maxRecDepth 100000 in
theorem e_xs_hasRoomForJar {μ : Mem} {res : Int} (h : xs_hasRoomForJar μ = some res) : GM shX l D ad ca YX4_hasRoomForJar [.inr 10] μ (some (.inl res)) μ := by
  refine GM.of (L := [some (.inr 10)]) (by decide +kernel) rfl (Nat.le_of_ble_eq_true rfl) ?_
  rw [xs_hasRoomForJar] at h
  refine G.aload_n (i := 0) dX4_hasRoomForJar_0 rfl rfl ?_
  refine G.getI ck4 shX_10 2 rfl (by decide) q101 dX4_hasRoomForJar_1 ?_
  refine G.bipush dX4_hasRoomForJar_4 kb_12 ?_
  refine G.icmp_ge 23 dX4_hasRoomForJar_6 rfl (fun c => ?_) (fun c => ?_)
  · replace h := (if_pos c).symm.trans h
    exact eb_xs_hasRoomForJar_23  h
  · replace h := (if_neg c).symm.trans h
    refine G.aload_n (i := 0) dX4_hasRoomForJar_9 rfl rfl ?_
    refine G.getI ck4 shX_10 3 rfl (by decide) q105 dX4_hasRoomForJar_10 ?_
    refine G.sipush dX4_hasRoomForJar_13 ks_200 ?_
    refine G.icmp_ge 23 dX4_hasRoomForJar_16 rfl (fun c => ?_) (fun c => ?_)
    · replace h := (if_pos c).symm.trans h
      exact eb_xs_hasRoomForJar_23  h
    · replace h := (if_neg c).symm.trans h
      refine G.iconst dX4_hasRoomForJar_19 ki_1 ?_
      refine G.goto 24 dX4_hasRoomForJar_20 rfl ?_
      exact eb_xs_hasRoomForJar_24  h
set_option maxRecDepth 100000 in
theorem e_xs_addJar {a1 : Int} {μ : Mem} {res : (Int × Mem)} (h : xs_addJar a1 μ = some res) : GM shX l D ad ca YX4_addJar [.inr 10, .inl a1] μ (some (.inl res.1)) res.2 := by
  refine GM.of (L := [some (.inr 10), some (.inl a1), none]) (by decide +kernel) rfl (Nat.le_of_ble_eq_true rfl) ?_
  rw [xs_addJar] at h
  refine G.aload_n (i := 0) dX4_addJar_0 rfl rfl ?_
  refine G.getI ck4 shX_10 3 rfl (by decide) q105 dX4_addJar_1 ?_
  refine G.istore_n (i := 2) dX4_addJar_4 rfl (Nat.le_of_ble_eq_true rfl) ?_
  refine G.aload_n (i := 0) dX4_addJar_5 rfl rfl ?_
  refine G.getR ck4 shX_10 0 rfl (by decide) q94 dX4_addJar_6 ?_
  refine G.aload_n (i := 0) dX4_addJar_9 rfl rfl ?_
  refine G.getI ck4 shX_10 2 rfl (by decide) q101 dX4_addJar_10 ?_
  refine G.iload_n (i := 2) dX4_addJar_13 rfl rfl ?_
  obtain ⟨μ1, hv, h⟩ := bd h
  obtain ⟨hb, rfl⟩ := aput_some hv
  refine G.iast shX_11 hb dX4_addJar_14 ?_
  refine G.aload_n (i := 0) dX4_addJar_15 rfl rfl ?_
  refine G.getR ck4 shX_10 1 rfl (by decide) q96 dX4_addJar_16 ?_
  refine G.aload_n (i := 0) dX4_addJar_19 rfl rfl ?_
  refine G.getI ck4 shX_10 2 rfl (by decide) q101 dX4_addJar_20 ?_
  refine G.iload_n (i := 1) dX4_addJar_23 rfl rfl ?_
  obtain ⟨μ2, hv, h⟩ := bd h
  obtain ⟨hb, rfl⟩ := aput_some hv
  refine G.iast shX_12 hb dX4_addJar_24 ?_
  refine G.aload_n (i := 0) dX4_addJar_25 rfl rfl ?_
  refine G.dup dX4_addJar_26 ?_
  refine G.getI ck4 shX_10 2 rfl (by decide) q101 dX4_addJar_27 ?_
  refine G.iconst dX4_addJar_30 ki_1 ?_
  refine G.iadd dX4_addJar_31 ?_
  replace h := bnd_mp h
  refine G.putI ck4 shX_10 2 rfl (by decide) q101 rfl rfl rfl dX4_addJar_32 ?_
  refine G.aload_n (i := 0) dX4_addJar_35 rfl rfl ?_
  refine G.dup dX4_addJar_36 ?_
  refine G.getI ck4 shX_10 3 rfl (by decide) q105 dX4_addJar_37 ?_
  refine G.iconst dX4_addJar_40 ki_1 ?_
  refine G.iadd dX4_addJar_41 ?_
  replace h := bnd_mp h
  refine G.putI ck4 shX_10 3 rfl (by decide) q105 rfl rfl rfl dX4_addJar_42 ?_
  refine G.iload_n (i := 2) dX4_addJar_45 rfl rfl ?_
  cases h
  exact G.iret dX4_addJar_46 rfl
set_option maxRecDepth 100000 in
theorem eb_xa_bringUnits_79 {x2 : Int} {x3 : Int} {x4 : Int} {o5 : Option PV} {μ : Mem} {res : (Int × Mem)} (h : xa_bringUnits_79 x2 x3 x4 μ = some res) : G shX l D ad ca YX0_bringUnits 79 [some (.inr 61), some (.inr 62), some (.inl x2), some (.inl x3), some (.inl x4), o5] [] μ (some (.inl res.1)) res.2 := by
  rw [xa_bringUnits_79] at h
  refine G.aload_n (i := 0) dX0_bringUnits_79 rfl rfl ?_
  refine G.getR ck0 shX_61 0 rfl (by decide) q173 dX0_bringUnits_80 ?_
  refine G.getRN ck4 shX_10 9 rfl (by decide) q124 dX0_bringUnits_83 ?_
  refine G.iconst dX0_bringUnits_86 ki_0 ?_
  refine G.dup2 dX0_bringUnits_87 ?_
  refine G.ialdc 0 shX_16 rfl (by decide) dX0_bringUnits_88 ?_
  refine G.iload_n (i := 3) dX0_bringUnits_89 rfl rfl ?_
  refine G.iadd dX0_bringUnits_90 ?_
  replace h := bnd_mp h
  refine G.iastc 0 shX_16 rfl (by decide) dX0_bringUnits_91 ?_
  refine G.aload_n (i := 0) dX0_bringUnits_92 rfl rfl ?_
  refine G.getR ck0 shX_61 0 rfl (by decide) q173 dX0_bringUnits_93 ?_
  refine G.getRN ck4 shX_10 9 rfl (by decide) q124 dX0_bringUnits_96 ?_
  refine G.iconst dX0_bringUnits_99 ki_4 ?_
  refine G.dup2 dX0_bringUnits_100 ?_
  refine G.ialdc 4 shX_16 rfl (by decide) dX0_bringUnits_101 ?_
  refine G.iload dX0_bringUnits_102 rfl ?_
  refine G.iadd dX0_bringUnits_104 ?_
  replace h := bnd_mp h
  refine G.iastc 4 shX_16 rfl (by decide) dX0_bringUnits_105 ?_
  refine G.aload_n (i := 0) dX0_bringUnits_106 rfl rfl ?_
  refine G.getR ck0 shX_61 0 rfl (by decide) q173 dX0_bringUnits_107 ?_
  refine G.getRN ck4 shX_10 9 rfl (by decide) q124 dX0_bringUnits_110 ?_
  refine G.iconst dX0_bringUnits_113 ki_1 ?_
  refine G.dup2 dX0_bringUnits_114 ?_
  refine G.ialdc 1 shX_16 rfl (by decide) dX0_bringUnits_115 ?_
  refine G.iload_n (i := 3) dX0_bringUnits_116 rfl rfl ?_
  refine G.iload_n (i := 2) dX0_bringUnits_117 rfl rfl ?_
  obtain ⟨v4, hv, h⟩ := bd h
  refine G.callSN (e_xx_unitsOf hv) cs_X0_bringUnits_X7_unitsOf rfl (Nat.le_of_ble_eq_true rfl) q385 q330 dX0_bringUnits_118 ?_
  refine G.isub dX0_bringUnits_121 ?_
  refine G.iadd dX0_bringUnits_122 ?_
  replace h := bnd_mp h
  refine G.iastc 1 shX_16 rfl (by decide) dX0_bringUnits_123 ?_
  refine G.aload_n (i := 0) dX0_bringUnits_124 rfl rfl ?_
  refine G.getR ck0 shX_61 0 rfl (by decide) q173 dX0_bringUnits_125 ?_
  refine G.iload_n (i := 2) dX0_bringUnits_128 rfl rfl ?_
  obtain ⟨p6, hv, h⟩ := bd h
  refine G.callV (e_xs_addJar hv) cs_X0_bringUnits_X4_addJar ck4 shX_10 rfl rfl (Nat.le_of_ble_eq_true rfl) q386 q387 q388 dX0_bringUnits_129 ?_
  cases h
  exact G.iret dX0_bringUnits_132 rfl
set_option maxRecDepth 100000 in
theorem eb_xa_bringUnits_23 : ∀ (n : Nat) (x2 : Int) (x3 : Int) (x4 : Int) (x5 : Int) (μ : Mem) (res : (Int × Mem)), xa_bringUnits_23 n x2 x3 x4 x5 μ = some res → G shX l D ad ca YX0_bringUnits 23 [some (.inr 61), some (.inr 62), some (.inl x2), some (.inl x3), some (.inl x4), some (.inl x5)] [] μ (some (.inl res.1)) res.2 := by
  intro n
  induction n with
  | zero =>
    intro x2 x3 x4 x5 μ res h
    rw [xa_bringUnits_23] at h
    cases h
  | succ n ih =>
    intro x2 x3 x4 x5 μ res h
    rw [xa_bringUnits_23] at h
    refine G.iload dX0_bringUnits_23 rfl ?_
    refine G.bipush dX0_bringUnits_25 kb_8 ?_
    refine G.icmp_ge 79 dX0_bringUnits_27 rfl (fun c => ?_) (fun c => ?_)
    · replace h := (if_pos c).symm.trans h
      exact eb_xa_bringUnits_79  h
    · replace h := (if_neg c).symm.trans h
      refine G.iload_n (i := 2) dX0_bringUnits_30 rfl rfl ?_
      refine G.aload_n (i := 1) dX0_bringUnits_31 rfl rfl ?_
      refine G.iload dX0_bringUnits_32 rfl ?_
      obtain ⟨v7, hv, h⟩ := bd h
      obtain ⟨hb, rfl⟩ := aget_some hv
      refine G.iald shX_62 hb dX0_bringUnits_34 ?_
      refine G.iconst dX0_bringUnits_35 ki_3 ?_
      refine G.irem dX0_bringUnits_36 (by decide) ?_
      refine G.powN dX0_bringUnits_37 q376 ?_
      refine G.iload dX0_bringUnits_40 rfl ?_
      obtain ⟨v8, hv, h⟩ := bd h
      obtain ⟨hb, rfl⟩ := pget_some hv
      refine G.powld hb dX0_bringUnits_42 ?_
      refine G.imul dX0_bringUnits_43 ?_
      refine G.iadd dX0_bringUnits_44 ?_
      replace h := bnd_mp h
      refine G.istore_n (i := 2) dX0_bringUnits_45 rfl (Nat.le_of_ble_eq_true rfl) ?_
      refine G.iload_n (i := 3) dX0_bringUnits_46 rfl rfl ?_
      refine G.aload_n (i := 1) dX0_bringUnits_47 rfl rfl ?_
      refine G.iload dX0_bringUnits_48 rfl ?_
      obtain ⟨v10, hv, h⟩ := bd h
      obtain ⟨hb, rfl⟩ := aget_some hv
      refine G.iald shX_62 hb dX0_bringUnits_50 ?_
      refine G.iadd dX0_bringUnits_51 ?_
      replace h := bnd_mp h
      refine G.istore_n (i := 3) dX0_bringUnits_52 rfl (Nat.le_of_ble_eq_true rfl) ?_
      refine G.iload dX0_bringUnits_53 rfl ?_
      refine G.aload_n (i := 1) dX0_bringUnits_55 rfl rfl ?_
      refine G.iload dX0_bringUnits_56 rfl ?_
      obtain ⟨v12, hv, h⟩ := bd h
      obtain ⟨hb, rfl⟩ := aget_some hv
      refine G.iald shX_62 hb dX0_bringUnits_58 ?_
      refine G.aload_n (i := 0) dX0_bringUnits_59 rfl rfl ?_
      refine G.getR ck0 shX_61 0 rfl (by decide) q173 dX0_bringUnits_60 ?_
      refine G.getRN ck4 shX_10 6 rfl (by decide) q115 dX0_bringUnits_63 ?_
      refine G.iload dX0_bringUnits_66 rfl ?_
      obtain ⟨v13, hv, h⟩ := bd h
      obtain ⟨hb, rfl⟩ := aget_some hv
      refine G.iald shX_14 hb dX0_bringUnits_68 ?_
      refine G.imul dX0_bringUnits_69 ?_
      refine G.iadd dX0_bringUnits_70 ?_
      replace h := bnd_mp h
      refine G.istore dX0_bringUnits_71 (Nat.le_of_ble_eq_true rfl) ?_
      replace h := bnd_mp h
      refine G.iinc dX0_bringUnits_73 rfl (Nat.le_of_ble_eq_true rfl) ?_
      refine G.goto 23 dX0_bringUnits_76 rfl ?_
      exact ih _ _ _ _ _ _ h
set_option maxRecDepth 100000 in
theorem e_xa_bringUnits {μ : Mem} {res : (Int × Mem)} (h : xa_bringUnits μ = some res) : GM shX l D ad ca YX0_bringUnits [.inr 61, .inr 62] μ (some (.inl res.1)) res.2 := by
  refine GM.of (L := [some (.inr 61), some (.inr 62), none, none, none, none]) (by decide +kernel) rfl (Nat.le_of_ble_eq_true rfl) ?_
  rw [xa_bringUnits] at h
  refine G.aload_n (i := 0) dX0_bringUnits_0 rfl rfl ?_
  refine G.getR ck0 shX_61 0 rfl (by decide) q173 dX0_bringUnits_1 ?_
  obtain ⟨v1, hv, h⟩ := bd h
  refine G.callV (e_xs_hasRoomForJar hv) cs_X0_bringUnits_X4_hasRoomForJar ck4 shX_10 rfl rfl (Nat.le_of_ble_eq_true rfl) q381 q382 q383 dX0_bringUnits_4 ?_
  refine G.if_ne 13 dX0_bringUnits_7 rfl (fun c => ?_) (fun c => ?_)
  · replace h := (if_neg c).symm.trans h
    refine G.iconst dX0_bringUnits_13 ki_0 ?_
    refine G.istore_n (i := 2) dX0_bringUnits_14 rfl (Nat.le_of_ble_eq_true rfl) ?_
    refine G.iconst dX0_bringUnits_15 ki_0 ?_
    refine G.istore_n (i := 3) dX0_bringUnits_16 rfl (Nat.le_of_ble_eq_true rfl) ?_
    refine G.iconst dX0_bringUnits_17 ki_0 ?_
    refine G.istore dX0_bringUnits_18 (Nat.le_of_ble_eq_true rfl) ?_
    refine G.iconst dX0_bringUnits_20 ki_0 ?_
    refine G.istore dX0_bringUnits_21 (Nat.le_of_ble_eq_true rfl) ?_
    exact eb_xa_bringUnits_23  _ _ _ _ _ _ _ h
  · replace h := (if_pos c).symm.trans h
    refine G.bipush dX0_bringUnits_10 kb_m3 ?_
    cases h
    exact G.iret dX0_bringUnits_12 rfl
set_option maxRecDepth 100000 in
theorem eb_xa_bring_39 {o1 : Option PV} {o2 : Option PV} {μ : Mem} {res : (Int × Mem)} (h : xa_bring_39 μ = some res) : G shX l D ad ca YX0_bring 39 [some (.inr 61), o1, o2] [] μ (some (.inl res.1)) res.2 := by
  rw [xa_bring_39] at h
  refine G.aload_n (i := 0) dX0_bring_39 rfl rfl ?_
  refine G.aload_n (i := 0) dX0_bring_40 rfl rfl ?_
  refine G.getR ck0 shX_61 3 rfl (by decide) q176 dX0_bring_41 ?_
  obtain ⟨p2, hv, h⟩ := bd h
  refine G.callV (e_xa_bringUnits hv) cs_X0_bring_X0_bringUnits ck0 shX_61 rfl rfl (Nat.le_of_ble_eq_true rfl) q377 q378 q379 dX0_bring_44 ?_
  cases h
  exact G.iret dX0_bring_47 rfl
set_option maxRecDepth 100000 in
theorem eb_xa_bring_12 : ∀ (n : Nat) (x1 : Int) (x2 : Int) (μ : Mem) (res : (Int × Mem)), xa_bring_12 n x1 x2 μ = some res → G shX l D ad ca YX0_bring 12 [some (.inr 61), some (.inl x1), some (.inl x2)] [] μ (some (.inl res.1)) res.2 := by
  intro n
  induction n with
  | zero =>
    intro x1 x2 μ res h
    rw [xa_bring_12] at h
    cases h
  | succ n ih =>
    intro x1 x2 μ res h
    rw [xa_bring_12] at h
    refine G.iload_n (i := 2) dX0_bring_12 rfl rfl ?_
    refine G.bipush dX0_bring_13 kb_8 ?_
    refine G.icmp_ge 39 dX0_bring_15 rfl (fun c => ?_) (fun c => ?_)
    · replace h := (if_pos c).symm.trans h
      exact eb_xa_bring_39  h
    · replace h := (if_neg c).symm.trans h
      refine G.aload_n (i := 0) dX0_bring_18 rfl rfl ?_
      refine G.getR ck0 shX_61 3 rfl (by decide) q176 dX0_bring_19 ?_
      refine G.iload_n (i := 2) dX0_bring_22 rfl rfl ?_
      refine G.iload_n (i := 1) dX0_bring_23 rfl rfl ?_
      refine G.powN dX0_bring_24 q376 ?_
      refine G.iload_n (i := 2) dX0_bring_27 rfl rfl ?_
      obtain ⟨v3, hv, h⟩ := bd h
      obtain ⟨hb, rfl⟩ := pget_some hv
      refine G.powld hb dX0_bring_28 ?_
      obtain ⟨hz, h⟩ := ite_nn h
      refine G.idiv dX0_bring_29 hz ?_
      refine G.iconst dX0_bring_30 ki_3 ?_
      refine G.irem dX0_bring_31 (by decide) ?_
      obtain ⟨μ4, hv, h⟩ := bd h
      obtain ⟨hb, rfl⟩ := aput_some hv
      refine G.iast shX_62 hb dX0_bring_32 ?_
      replace h := bnd_mp h
      refine G.iinc dX0_bring_33 rfl (Nat.le_of_ble_eq_true rfl) ?_
      refine G.goto 12 dX0_bring_36 rfl ?_
      exact ih _ _ _ _ h
set_option maxRecDepth 100000 in
theorem e_xa_bring {a1 : Int} {μ : Mem} {res : (Int × Mem)} (h : xa_bring a1 μ = some res) : GM shX l D ad ca YX0_bring [.inr 61, .inl a1] μ (some (.inl res.1)) res.2 := by
  refine GM.of (L := [some (.inr 61), some (.inl a1), none]) (by decide +kernel) rfl (Nat.le_of_ble_eq_true rfl) ?_
  rw [xa_bring] at h
  refine G.iload_n (i := 1) dX0_bring_0 rfl rfl ?_
  obtain ⟨v1, hv, h⟩ := bd h
  refine G.callSN (e_xx_isMix hv) cs_X0_bring_X7_isMix rfl (Nat.le_of_ble_eq_true rfl) q373 q374 dX0_bring_1 ?_
  refine G.if_ne 10 dX0_bring_4 rfl (fun c => ?_) (fun c => ?_)
  · replace h := (if_neg c).symm.trans h
    refine G.iconst dX0_bring_10 ki_0 ?_
    refine G.istore_n (i := 2) dX0_bring_11 rfl (Nat.le_of_ble_eq_true rfl) ?_
    exact eb_xa_bring_12  _ _ _ _ _ h
  · replace h := (if_pos c).symm.trans h
    refine G.bipush dX0_bring_7 kb_m2 ?_
    cases h
    exact G.iret dX0_bring_9 rfl
set_option maxRecDepth 100000 in
theorem e_xx_jar {a1 : Int} {μ : Mem} {res : (Int × Mem)} (h : xx_jar a1 μ = some res) : GM shX l D ad ca YX7_jar [.inr 0, .inl a1] μ (some (.inl res.1)) res.2 := by
  refine GM.of (L := [some (.inr 0), some (.inl a1)]) (by decide +kernel) rfl (Nat.le_of_ble_eq_true rfl) ?_
  rw [xx_jar] at h
  refine G.aload_n (i := 0) dX7_jar_0 rfl rfl ?_
  refine G.getR ck7 shX_0 5 rfl (by decide) q241 dX7_jar_1 ?_
  refine G.aload_n (i := 0) dX7_jar_4 rfl rfl ?_
  refine G.getR ck7 shX_0 2 rfl (by decide) q238 dX7_jar_5 ?_
  obtain ⟨μ1, hv, h⟩ := bd h
  refine G.callV (e_xh_prepare hv) cs_X7_jar_X2_prepare ck2 shX_24 rfl rfl (Nat.le_of_ble_eq_true rfl) q360 q361 q362 dX7_jar_8 ?_
  refine G.aload_n (i := 0) dX7_jar_11 rfl rfl ?_
  refine G.aload_n (i := 0) dX7_jar_12 rfl rfl ?_
  refine G.getR ck7 shX_0 6 rfl (by decide) q242 dX7_jar_13 ?_
  refine G.iload_n (i := 1) dX7_jar_16 rfl rfl ?_
  obtain ⟨p2, hv, h⟩ := bd h
  refine G.callV (e_xa_bring hv) cs_X7_jar_X0_bring ck0 shX_61 rfl rfl (Nat.le_of_ble_eq_true rfl) q369 q370 q371 dX7_jar_17 ?_
  obtain ⟨p3, hv, h⟩ := bd h
  refine G.callV (e_xx_ended hv) cs_X7_jar_X7_ended ck7 shX_0 rfl rfl (Nat.le_of_ble_eq_true rfl) q390 q392 q9 dX7_jar_20 ?_
  cases h
  exact G.iret dX7_jar_23 rfl
set_option maxRecDepth 100000 in
theorem eb_xx_costOf_32 {x2 : Int} {o0 : Option PV} {o3 : Option PV} {μ : Mem} {res : Int} (h : xx_costOf_32 x2 μ = some res) : G shX l D ad ca YX7_costOf 32 [o0, some (.inr 14), some (.inl x2), o3] [] μ (some (.inl res)) μ := by
  rw [xx_costOf_32] at h
  refine G.iload_n (i := 2) dX7_costOf_32 rfl rfl ?_
  cases h
  exact G.iret dX7_costOf_33 rfl
set_option maxRecDepth 100000 in
theorem eb_xx_costOf_4 : ∀ (n : Nat) (x0 : Int) (x2 : Int) (x3 : Int) (μ : Mem) (res : Int), xx_costOf_4 n x0 x2 x3 μ = some res → G shX l D ad ca YX7_costOf 4 [some (.inl x0), some (.inr 14), some (.inl x2), some (.inl x3)] [] μ (some (.inl res)) μ := by
  intro n
  induction n with
  | zero =>
    intro x0 x2 x3 μ res h
    rw [xx_costOf_4] at h
    cases h
  | succ n ih =>
    intro x0 x2 x3 μ res h
    rw [xx_costOf_4] at h
    refine G.iload_n (i := 3) dX7_costOf_4 rfl rfl ?_
    refine G.bipush dX7_costOf_5 kb_8 ?_
    refine G.icmp_ge 32 dX7_costOf_7 rfl (fun c => ?_) (fun c => ?_)
    · replace h := (if_pos c).symm.trans h
      exact eb_xx_costOf_32  h
    · replace h := (if_neg c).symm.trans h
      refine G.iload_n (i := 2) dX7_costOf_10 rfl rfl ?_
      refine G.iload_n (i := 0) dX7_costOf_11 rfl rfl ?_
      refine G.pow dX7_costOf_12 q312 ?_
      refine G.iload_n (i := 3) dX7_costOf_15 rfl rfl ?_
      obtain ⟨v1, hv, h⟩ := bd h
      obtain ⟨hb, rfl⟩ := pget_some hv
      refine G.powld hb dX7_costOf_16 ?_
      obtain ⟨hz, h⟩ := ite_nn h
      refine G.idiv dX7_costOf_17 hz ?_
      refine G.iconst dX7_costOf_18 ki_3 ?_
      refine G.irem dX7_costOf_19 (by decide) ?_
      refine G.aload_n (i := 1) dX7_costOf_20 rfl rfl ?_
      refine G.iload_n (i := 3) dX7_costOf_21 rfl rfl ?_
      obtain ⟨v2, hv, h⟩ := bd h
      obtain ⟨hb, rfl⟩ := aget_some hv
      refine G.iald shX_14 hb dX7_costOf_22 ?_
      refine G.imul dX7_costOf_23 ?_
      refine G.iadd dX7_costOf_24 ?_
      replace h := bnd_mp h
      refine G.istore_n (i := 2) dX7_costOf_25 rfl (Nat.le_of_ble_eq_true rfl) ?_
      replace h := bnd_mp h
      refine G.iinc dX7_costOf_26 rfl (Nat.le_of_ble_eq_true rfl) ?_
      refine G.goto 4 dX7_costOf_29 rfl ?_
      exact ih _ _ _ _ _ h
set_option maxRecDepth 100000 in
theorem e_xx_costOf {a1 : Int} {μ : Mem} {res : Int} (h : xx_costOf a1 μ = some res) : GM shX l D ad ca YX7_costOf [.inl a1, .inr 14] μ (some (.inl res)) μ := by
  refine GM.of (L := [some (.inl a1), some (.inr 14), none, none]) (by decide +kernel) rfl (Nat.le_of_ble_eq_true rfl) ?_
  rw [xx_costOf] at h
  refine G.iconst dX7_costOf_0 ki_0 ?_
  refine G.istore_n (i := 2) dX7_costOf_1 rfl (Nat.le_of_ble_eq_true rfl) ?_
  refine G.iconst dX7_costOf_2 ki_0 ?_
  refine G.istore_n (i := 3) dX7_costOf_3 rfl (Nat.le_of_ble_eq_true rfl) ?_
  exact eb_xx_costOf_4  _ _ _ _ _ _ h
set_option maxRecDepth 100000 in
theorem eb_xt_fillCosts_39 {o2 : Option PV} {μ : Mem} {res : Mem} (h : xt_fillCosts_39 μ = some res) : G shX l D ad ca YX5_fillCosts 39 [some (.inr 3), some (.inr 14), o2] [] μ none res := by
  rw [xt_fillCosts_39] at h
  cases h
  exact G.vret dX5_fillCosts_39 rfl
set_option maxRecDepth 100000 in
theorem eb_xt_fillCosts_2 : ∀ (n : Nat) (x2 : Int) (μ : Mem) (res : Mem), xt_fillCosts_2 n x2 μ = some res → G shX l D ad ca YX5_fillCosts 2 [some (.inr 3), some (.inr 14), some (.inl x2)] [] μ none res := by
  intro n
  induction n with
  | zero =>
    intro x2 μ res h
    rw [xt_fillCosts_2] at h
    cases h
  | succ n ih =>
    intro x2 μ res h
    rw [xt_fillCosts_2] at h
    refine G.iload_n (i := 2) dX5_fillCosts_2 rfl rfl ?_
    refine G.bipush dX5_fillCosts_3 kb_81 ?_
    refine G.icmp_ge 39 dX5_fillCosts_5 rfl (fun c => ?_) (fun c => ?_)
    · replace h := (if_pos c).symm.trans h
      exact eb_xt_fillCosts_39  h
    · replace h := (if_neg c).symm.trans h
      refine G.aload_n (i := 0) dX5_fillCosts_8 rfl rfl ?_
      refine G.getR ck5 shX_3 7 rfl (by decide) q66 dX5_fillCosts_9 ?_
      refine G.iload_n (i := 2) dX5_fillCosts_12 rfl rfl ?_
      refine G.iload_n (i := 2) dX5_fillCosts_13 rfl rfl ?_
      refine G.aload_n (i := 1) dX5_fillCosts_14 rfl rfl ?_
      obtain ⟨v1, hv, h⟩ := bd h
      refine G.callSN (e_xx_costOf hv) cs_X5_fillCosts_X7_costOf rfl (Nat.le_of_ble_eq_true rfl) q491 q427 dX5_fillCosts_15 ?_
      obtain ⟨μ2, hv, h⟩ := bd h
      obtain ⟨hb, rfl⟩ := aput_some hv
      refine G.iast shX_8 hb dX5_fillCosts_18 ?_
      refine G.aload_n (i := 0) dX5_fillCosts_19 rfl rfl ?_
      refine G.getR ck5 shX_3 8 rfl (by decide) q67 dX5_fillCosts_20 ?_
      refine G.iload_n (i := 2) dX5_fillCosts_23 rfl rfl ?_
      refine G.iload_n (i := 2) dX5_fillCosts_24 rfl rfl ?_
      refine G.bipush dX5_fillCosts_25 kb_81 ?_
      refine G.imul dX5_fillCosts_27 ?_
      refine G.aload_n (i := 1) dX5_fillCosts_28 rfl rfl ?_
      obtain ⟨v3, hv, h⟩ := bd h
      refine G.callSN (e_xx_costOf hv) cs_X5_fillCosts_X7_costOf rfl (Nat.le_of_ble_eq_true rfl) q491 q427 dX5_fillCosts_29 ?_
      obtain ⟨μ4, hv, h⟩ := bd h
      obtain ⟨hb, rfl⟩ := aput_some hv
      refine G.iast shX_9 hb dX5_fillCosts_32 ?_
      replace h := bnd_mp h
      refine G.iinc dX5_fillCosts_33 rfl (Nat.le_of_ble_eq_true rfl) ?_
      refine G.goto 2 dX5_fillCosts_36 rfl ?_
      exact ih _ _ _ h
set_option maxRecDepth 100000 in
theorem e_xt_fillCosts {μ : Mem} {res : Mem} (h : xt_fillCosts μ = some res) : GM shX l D ad ca YX5_fillCosts [.inr 3, .inr 14] μ none res := by
  refine GM.of (L := [some (.inr 3), some (.inr 14), none]) (by decide +kernel) rfl (Nat.le_of_ble_eq_true rfl) ?_
  rw [xt_fillCosts] at h
  refine G.iconst dX5_fillCosts_0 ki_0 ?_
  refine G.istore_n (i := 2) dX5_fillCosts_1 rfl (Nat.le_of_ble_eq_true rfl) ?_
  exact eb_xt_fillCosts_2  _ _ _ _ h
set_option maxRecDepth 100000 in
theorem eb_xt_cheapestLike_99 {x3 : Int} {o1 : Option PV} {o4 : Option PV} {o5 : Option PV} {o6 : Option PV} {o7 : Option PV} {μ : Mem} {res : (Int × Mem)} (h : xt_cheapestLike_99 x3 μ = some res) : G shX l D ad ca YX5_cheapestLike 99 [some (.inr 3), o1, some (.inr 14), some (.inl x3), o4, o5, o6, o7] [] μ (some (.inl res.1)) res.2 := by
  rw [xt_cheapestLike_99] at h
  refine G.iload_n (i := 3) dX5_cheapestLike_99 rfl rfl ?_
  cases h
  exact G.iret dX5_cheapestLike_100 rfl
set_option maxRecDepth 100000 in
theorem eb_xt_cheapestLike_93 {K20 : Int → Int → Int → Int → Mem → Option (Int × Mem)} (hK20 : ∀ (x3 : Int) (x4 : Int) (x5 : Int) (x6 : Int) (o1 : Option PV) (o7 : Option PV) (μ : Mem) (res : (Int × Mem)), K20 x3 x4 x5 x6 μ = some res → G shX l D ad ca YX5_cheapestLike 20 [some (.inr 3), o1, some (.inr 14), some (.inl x3), some (.inl x4), some (.inl x5), some (.inl x6), o7] [] μ (some (.inl res.1)) res.2) {x3 : Int} {x4 : Int} {x5 : Int} {x6 : Int} {o1 : Option PV} {o7 : Option PV} {μ : Mem} {res : (Int × Mem)} (h : xt_cheapestLike_93 K20 x3 x4 x5 x6 μ = some res) : G shX l D ad ca YX5_cheapestLike 93 [some (.inr 3), o1, some (.inr 14), some (.inl x3), some (.inl x4), some (.inl x5), some (.inl x6), o7] [] μ (some (.inl res.1)) res.2 := by
  rw [xt_cheapestLike_93] at h
  replace h := bnd_mp h
  refine G.iinc dX5_cheapestLike_93 rfl (Nat.le_of_ble_eq_true rfl) ?_
  refine G.goto 20 dX5_cheapestLike_96 rfl ?_
  exact hK20 _ _ _ _ _ _ _ _ h
set_option maxRecDepth 100000 in
theorem eb_xt_cheapestLike_86 {K20 : Int → Int → Int → Int → Mem → Option (Int × Mem)} (hK20 : ∀ (x3 : Int) (x4 : Int) (x5 : Int) (x6 : Int) (o1 : Option PV) (o7 : Option PV) (μ : Mem) (res : (Int × Mem)), K20 x3 x4 x5 x6 μ = some res → G shX l D ad ca YX5_cheapestLike 20 [some (.inr 3), o1, some (.inr 14), some (.inl x3), some (.inl x4), some (.inl x5), some (.inl x6), o7] [] μ (some (.inl res.1)) res.2) {x5 : Int} {x6 : Int} {x7 : Int} {o1 : Option PV} {o3 : Option PV} {o4 : Option PV} {μ : Mem} {res : (Int × Mem)} (h : xt_cheapestLike_86 K20 x5 x6 x7 μ = some res) : G shX l D ad ca YX5_cheapestLike 86 [some (.inr 3), o1, some (.inr 14), o3, o4, some (.inl x5), some (.inl x6), some (.inl x7)] [] μ (some (.inl res.1)) res.2 := by
  rw [xt_cheapestLike_86] at h
  refine G.iload dX5_cheapestLike_86 rfl ?_
  refine G.istore_n (i := 3) dX5_cheapestLike_88 rfl (Nat.le_of_ble_eq_true rfl) ?_
  refine G.iload dX5_cheapestLike_89 rfl ?_
  refine G.istore dX5_cheapestLike_91 (Nat.le_of_ble_eq_true rfl) ?_
  exact eb_xt_cheapestLike_93 hK20 h
set_option maxRecDepth 100000 in
theorem eb_xt_cheapestLike_20 : ∀ (n : Nat) (x3 : Int) (x4 : Int) (x5 : Int) (x6 : Int) (o1 : Option PV) (o7 : Option PV) (μ : Mem) (res : (Int × Mem)), xt_cheapestLike_20 n x3 x4 x5 x6 μ = some res → G shX l D ad ca YX5_cheapestLike 20 [some (.inr 3), o1, some (.inr 14), some (.inl x3), some (.inl x4), some (.inl x5), some (.inl x6), o7] [] μ (some (.inl res.1)) res.2 := by
  intro n
  induction n with
  | zero =>
    intro x3 x4 x5 x6 o1 o7 μ res h
    rw [xt_cheapestLike_20] at h
    cases h
  | succ n ih =>
    intro x3 x4 x5 x6 o1 o7 μ res h
    rw [xt_cheapestLike_20] at h
    refine G.iload dX5_cheapestLike_20 rfl ?_
    refine G.powN dX5_cheapestLike_22 q294 ?_
    refine G.aload_n (i := 0) dX5_cheapestLike_25 rfl rfl ?_
    refine G.getI ck5 shX_3 3 rfl (by decide) q61 dX5_cheapestLike_26 ?_
    obtain ⟨v3, hv, h⟩ := bd h
    obtain ⟨hb, rfl⟩ := pget_some hv
    refine G.powld hb dX5_cheapestLike_29 ?_
    refine G.icmp_ge 99 dX5_cheapestLike_30 rfl (fun c => ?_) (fun c => ?_)
    · replace h := (if_pos c).symm.trans h
      exact eb_xt_cheapestLike_99  h
    · replace h := (if_neg c).symm.trans h
      refine G.aload_n (i := 0) dX5_cheapestLike_33 rfl rfl ?_
      refine G.iload dX5_cheapestLike_34 rfl ?_
      refine G.iload dX5_cheapestLike_36 rfl ?_
      obtain ⟨v4, hv, h⟩ := bd h
      refine G.callV (e_xt_nextLike hv) cs_X5_cheapestLike_X5_nextLike ck5 shX_3 rfl rfl (Nat.le_of_ble_eq_true rfl) q492 q494 q14 dX5_cheapestLike_38 ?_
      refine G.istore dX5_cheapestLike_41 (Nat.le_of_ble_eq_true rfl) ?_
      refine G.aload_n (i := 0) dX5_cheapestLike_43 rfl rfl ?_
      refine G.getR ck5 shX_3 7 rfl (by decide) q66 dX5_cheapestLike_44 ?_
      refine G.iload dX5_cheapestLike_47 rfl ?_
      refine G.bipush dX5_cheapestLike_49 kb_81 ?_
      refine G.irem dX5_cheapestLike_51 (by decide) ?_
      obtain ⟨v5, hv, h⟩ := bd h
      obtain ⟨hb, rfl⟩ := aget_some hv
      refine G.iald shX_8 hb dX5_cheapestLike_52 ?_
      refine G.aload_n (i := 0) dX5_cheapestLike_53 rfl rfl ?_
      refine G.getR ck5 shX_3 8 rfl (by decide) q67 dX5_cheapestLike_54 ?_
      refine G.iload dX5_cheapestLike_57 rfl ?_
      refine G.bipush dX5_cheapestLike_59 kb_81 ?_
      refine G.idiv dX5_cheapestLike_61 (by decide) ?_
      obtain ⟨v6, hv, h⟩ := bd h
      obtain ⟨hb, rfl⟩ := aget_some hv
      refine G.iald shX_9 hb dX5_cheapestLike_62 ?_
      refine G.iadd dX5_cheapestLike_63 ?_
      replace h := bnd_mp h
      refine G.istore dX5_cheapestLike_64 (Nat.le_of_ble_eq_true rfl) ?_
      refine G.iload dX5_cheapestLike_66 rfl ?_
      refine G.iload dX5_cheapestLike_68 rfl ?_
      refine G.icmp_lt 86 dX5_cheapestLike_70 rfl (fun c => ?_) (fun c => ?_)
      · replace h := (if_pos c).symm.trans h
        exact eb_xt_cheapestLike_86 ih h
      · replace h := (if_neg c).symm.trans h
        refine G.iload dX5_cheapestLike_73 rfl ?_
        refine G.iload dX5_cheapestLike_75 rfl ?_
        refine G.icmp_ne 93 dX5_cheapestLike_77 rfl (fun c => ?_) (fun c => ?_)
        · replace h := (if_neg c).symm.trans h
          exact eb_xt_cheapestLike_93 ih h
        · replace h := (if_pos c).symm.trans h
          refine G.iload dX5_cheapestLike_80 rfl ?_
          refine G.iload_n (i := 3) dX5_cheapestLike_82 rfl rfl ?_
          refine G.icmp_ge 93 dX5_cheapestLike_83 rfl (fun c => ?_) (fun c => ?_)
          · replace h := (if_pos c).symm.trans h
            exact eb_xt_cheapestLike_93 ih h
          · replace h := (if_neg c).symm.trans h
            exact eb_xt_cheapestLike_86 ih h
set_option maxRecDepth 100000 in
theorem e_xt_cheapestLike {a1 : Int} {μ : Mem} {res : (Int × Mem)} (h : xt_cheapestLike a1 μ = some res) : GM shX l D ad ca YX5_cheapestLike [.inr 3, .inl a1, .inr 14] μ (some (.inl res.1)) res.2 := by
  refine GM.of (L := [some (.inr 3), some (.inl a1), some (.inr 14), none, none, none, none, none]) (by decide +kernel) rfl (Nat.le_of_ble_eq_true rfl) ?_
  rw [xt_cheapestLike] at h
  refine G.aload_n (i := 0) dX5_cheapestLike_0 rfl rfl ?_
  refine G.aload_n (i := 2) dX5_cheapestLike_1 rfl rfl ?_
  obtain ⟨μ1, hv, h⟩ := bd h
  refine G.callV (e_xt_fillCosts hv) cs_X5_cheapestLike_X5_fillCosts ck5 shX_3 rfl rfl (Nat.le_of_ble_eq_true rfl) q487 q489 q13 dX5_cheapestLike_2 ?_
  refine G.iload_n (i := 1) dX5_cheapestLike_5 rfl rfl ?_
  refine G.istore_n (i := 3) dX5_cheapestLike_6 rfl (Nat.le_of_ble_eq_true rfl) ?_
  refine G.iload_n (i := 1) dX5_cheapestLike_7 rfl rfl ?_
  refine G.aload_n (i := 2) dX5_cheapestLike_8 rfl rfl ?_
  obtain ⟨v2, hv, h⟩ := bd h
  refine G.callSN (e_xx_costOf hv) cs_X5_cheapestLike_X7_costOf rfl (Nat.le_of_ble_eq_true rfl) q491 q427 dX5_cheapestLike_9 ?_
  refine G.istore dX5_cheapestLike_12 (Nat.le_of_ble_eq_true rfl) ?_
  refine G.iload_n (i := 1) dX5_cheapestLike_14 rfl rfl ?_
  refine G.istore dX5_cheapestLike_15 (Nat.le_of_ble_eq_true rfl) ?_
  refine G.iconst dX5_cheapestLike_17 ki_1 ?_
  refine G.istore dX5_cheapestLike_18 (Nat.le_of_ble_eq_true rfl) ?_
  exact eb_xt_cheapestLike_20  _ _ _ _ _ _ _ _ _ h
set_option maxRecDepth 100000 in
theorem e_xx_cheapestLike {a1 : Int} {μ : Mem} {res : (Int × Mem)} (h : xx_cheapestLike a1 μ = some res) : GM shX l D ad ca YX7_cheapestLike [.inr 0, .inl a1] μ (some (.inl res.1)) res.2 := by
  refine GM.of (L := [some (.inr 0), some (.inl a1)]) (by decide +kernel) rfl (Nat.le_of_ble_eq_true rfl) ?_
  rw [xx_cheapestLike] at h
  refine G.aload_n (i := 0) dX7_cheapestLike_0 rfl rfl ?_
  refine G.getR ck7 shX_0 1 rfl (by decide) q237 dX7_cheapestLike_1 ?_
  refine G.aload_n (i := 0) dX7_cheapestLike_4 rfl rfl ?_
  refine G.getR ck7 shX_0 2 rfl (by decide) q238 dX7_cheapestLike_5 ?_
  obtain ⟨μ1, hv, h⟩ := bd h
  refine G.callV (e_xt_learn hv) cs_X7_cheapestLike_X5_learn ck5 shX_3 rfl rfl (Nat.le_of_ble_eq_true rfl) q272 q273 q274 dX7_cheapestLike_8 ?_
  refine G.aload_n (i := 0) dX7_cheapestLike_11 rfl rfl ?_
  refine G.getR ck7 shX_0 1 rfl (by decide) q237 dX7_cheapestLike_12 ?_
  refine G.iload_n (i := 1) dX7_cheapestLike_15 rfl rfl ?_
  refine G.aload_n (i := 0) dX7_cheapestLike_16 rfl rfl ?_
  refine G.getR ck7 shX_0 2 rfl (by decide) q238 dX7_cheapestLike_17 ?_
  refine G.getRN ck4 shX_10 6 rfl (by decide) q116 dX7_cheapestLike_20 ?_
  obtain ⟨p2, hv, h⟩ := bd h
  refine G.callV (e_xt_cheapestLike hv) cs_X7_cheapestLike_X5_cheapestLike ck5 shX_3 rfl rfl (Nat.le_of_ble_eq_true rfl) q483 q484 q485 dX7_cheapestLike_23 ?_
  cases h
  exact G.iret dX7_cheapestLike_26 rfl
set_option maxRecDepth 100000 in
theorem eb_xx_jarOf_111 {s0 : Int} {o1 : Option PV} {o2 : Option PV} {o3 : Option PV} {o4 : Option PV} {μ : Mem} {res : (Int × Mem)} (h : xx_jarOf_111 s0 μ = some res) : G shX l D ad ca YX7_jarOf 111 [some (.inr 0), o1, o2, o3, o4] [.inl s0] μ (some (.inl res.1)) res.2 := by
  rw [xx_jarOf_111] at h
  cases h
  exact G.iret dX7_jarOf_111 rfl
set_option maxRecDepth 100000 in
theorem e_xx_jarOf {a1 : Int} {a2 : Int} {μ : Mem} {res : (Int × Mem)} (h : xx_jarOf a1 a2 μ = some res) : GM shX l D ad ca YX7_jarOf [.inr 0, .inl a1, .inl a2] μ (some (.inl res.1)) res.2 := by
  refine GM.of (L := [some (.inr 0), some (.inl a1), some (.inl a2), none, none]) (by decide +kernel) rfl (Nat.le_of_ble_eq_true rfl) ?_
  rw [xx_jarOf] at h
  refine G.aload_n (i := 0) dX7_jarOf_0 rfl rfl ?_
  refine G.getR ck7 shX_0 2 rfl (by decide) q238 dX7_jarOf_1 ?_
  refine G.iload_n (i := 1) dX7_jarOf_4 rfl rfl ?_
  obtain ⟨v1, hv, h⟩ := bd h
  refine G.callV (e_xs_placeOf hv) cs_X7_jarOf_X4_placeOf ck4 shX_10 rfl rfl (Nat.le_of_ble_eq_true rfl) q473 q410 q411 dX7_jarOf_5 ?_
  refine G.istore_n (i := 3) dX7_jarOf_8 rfl (Nat.le_of_ble_eq_true rfl) ?_
  refine G.iload_n (i := 3) dX7_jarOf_9 rfl rfl ?_
  refine G.if_ge 15 dX7_jarOf_10 rfl (fun c => ?_) (fun c => ?_)
  · replace h := (if_pos c).symm.trans h
    refine G.aload_n (i := 0) dX7_jarOf_15 rfl rfl ?_
    refine G.getR ck7 shX_0 2 rfl (by decide) q238 dX7_jarOf_16 ?_
    refine G.getRN ck4 shX_10 1 rfl (by decide) q100 dX7_jarOf_19 ?_
    refine G.iload_n (i := 3) dX7_jarOf_22 rfl rfl ?_
    obtain ⟨v2, hv, h⟩ := bd h
    obtain ⟨hb, rfl⟩ := aget_some hv
    refine G.iald shX_12 hb dX7_jarOf_23 ?_
    refine G.istore dX7_jarOf_24 (Nat.le_of_ble_eq_true rfl) ?_
    refine G.iload_n (i := 2) dX7_jarOf_26 rfl rfl ?_
    refine G.tsCase 0 68 dX7_jarOf_27 (by decide) (by decide) rfl rfl (fun c0 => ?_) (fun c0 => ?_)
    · replace h := (if_pos c0).symm.trans h
      refine G.iload dX7_jarOf_68 rfl ?_
      cases h
      exact G.iret dX7_jarOf_70 rfl
    replace h := (if_neg c0).symm.trans h
    refine G.tsCase 1 71 dX7_jarOf_27 (by decide) (by decide) rfl rfl (fun c1 => ?_) (fun c1 => ?_)
    · replace h := (if_pos c1).symm.trans h
      refine G.iload dX7_jarOf_71 rfl ?_
      obtain ⟨v3, hv, h⟩ := bd h
      refine G.callS (e_xx_unitsOf hv) cs_X7_jarOf_X7_unitsOf rfl (Nat.le_of_ble_eq_true rfl) q329 q330 dX7_jarOf_73 ?_
      cases h
      exact G.iret dX7_jarOf_76 rfl
    replace h := (if_neg c1).symm.trans h
    refine G.tsCase 2 77 dX7_jarOf_27 (by decide) (by decide) rfl rfl (fun c2 => ?_) (fun c2 => ?_)
    · replace h := (if_pos c2).symm.trans h
      refine G.iload dX7_jarOf_77 rfl ?_
      refine G.aload_n (i := 0) dX7_jarOf_79 rfl rfl ?_
      refine G.getR ck7 shX_0 2 rfl (by decide) q238 dX7_jarOf_80 ?_
      refine G.getRN ck4 shX_10 6 rfl (by decide) q116 dX7_jarOf_83 ?_
      obtain ⟨v4, hv, h⟩ := bd h
      refine G.callS (e_xx_costOf hv) cs_X7_jarOf_X7_costOf rfl (Nat.le_of_ble_eq_true rfl) q474 q427 dX7_jarOf_86 ?_
      cases h
      exact G.iret dX7_jarOf_89 rfl
    replace h := (if_neg c2).symm.trans h
    refine G.tsCase 3 90 dX7_jarOf_27 (by decide) (by decide) rfl rfl (fun c3 => ?_) (fun c3 => ?_)
    · replace h := (if_pos c3).symm.trans h
      refine G.aload_n (i := 0) dX7_jarOf_90 rfl rfl ?_
      refine G.iload dX7_jarOf_91 rfl ?_
      obtain ⟨p5, hv, h⟩ := bd h
      refine G.callV (e_xx_tasteOf hv) cs_X7_jarOf_X7_tasteOf ck7 shX_0 rfl rfl (Nat.le_of_ble_eq_true rfl) q475 q477 q11 dX7_jarOf_93 ?_
      cases h
      exact G.iret dX7_jarOf_96 rfl
    replace h := (if_neg c3).symm.trans h
    refine G.tsCase 4 97 dX7_jarOf_27 (by decide) (by decide) rfl rfl (fun c4 => ?_) (fun c4 => ?_)
    · replace h := (if_pos c4).symm.trans h
      refine G.aload_n (i := 0) dX7_jarOf_97 rfl rfl ?_
      refine G.iload dX7_jarOf_98 rfl ?_
      obtain ⟨p6, hv, h⟩ := bd h
      refine G.callV (e_xx_tasteOf hv) cs_X7_jarOf_X7_tasteOf ck7 shX_0 rfl rfl (Nat.le_of_ble_eq_true rfl) q475 q477 q11 dX7_jarOf_100 ?_
      refine G.if_ne 110 dX7_jarOf_103 rfl (fun c => ?_) (fun c => ?_)
      · replace h := (if_neg c).symm.trans h
        refine G.iconst dX7_jarOf_110 ki_0 ?_
        exact eb_xx_jarOf_111  h
      · replace h := (if_pos c).symm.trans h
        refine G.iconst dX7_jarOf_106 ki_1 ?_
        refine G.goto 111 dX7_jarOf_107 rfl ?_
        exact eb_xx_jarOf_111  h
    replace h := (if_neg c4).symm.trans h
    refine G.tsCase 5 112 dX7_jarOf_27 (by decide) (by decide) rfl rfl (fun c5 => ?_) (fun c5 => ?_)
    · replace h := (if_pos c5).symm.trans h
      refine G.aload_n (i := 0) dX7_jarOf_112 rfl rfl ?_
      refine G.iload dX7_jarOf_113 rfl ?_
      obtain ⟨p7, hv, h⟩ := bd h
      refine G.callV (e_xx_cheapestLike hv) cs_X7_jarOf_X7_cheapestLike ck7 shX_0 rfl rfl (Nat.le_of_ble_eq_true rfl) q479 q481 q12 dX7_jarOf_115 ?_
      cases h
      exact G.iret dX7_jarOf_118 rfl
    replace h := (if_neg c5).symm.trans h
    refine G.tsCase 6 119 dX7_jarOf_27 (by decide) (by decide) rfl rfl (fun c6 => ?_) (fun c6 => ?_)
    · replace h := (if_pos c6).symm.trans h
      refine G.aload_n (i := 0) dX7_jarOf_119 rfl rfl ?_
      refine G.iload dX7_jarOf_120 rfl ?_
      obtain ⟨p8, hv, h⟩ := bd h
      refine G.callV (e_xx_cheapestLike hv) cs_X7_jarOf_X7_cheapestLike ck7 shX_0 rfl rfl (Nat.le_of_ble_eq_true rfl) q479 q481 q12 dX7_jarOf_122 ?_
      refine G.aload_n (i := 0) dX7_jarOf_125 rfl rfl ?_
      refine G.getR ck7 shX_0 2 rfl (by decide) q238 dX7_jarOf_126 ?_
      refine G.getRN ck4 shX_10 6 rfl (by decide) q116 dX7_jarOf_129 ?_
      obtain ⟨v9, hv, h⟩ := bd h
      refine G.callS (e_xx_costOf hv) cs_X7_jarOf_X7_costOf rfl (Nat.le_of_ble_eq_true rfl) q474 q427 dX7_jarOf_132 ?_
      cases h
      exact G.iret dX7_jarOf_135 rfl
    replace h := (if_neg c6).symm.trans h
    refine G.tsOut 136 dX7_jarOf_27 (by omega) rfl ?_
    refine G.bipush dX7_jarOf_136 kb_m2 ?_
    cases h
    exact G.iret dX7_jarOf_138 rfl
  · replace h := (if_neg c).symm.trans h
    refine G.iconst dX7_jarOf_13 ki_m1 ?_
    cases h
    exact G.iret dX7_jarOf_14 rfl
set_option maxRecDepth 100000 in
theorem eb_jf_fill_c68_20 {o1 : Option PV} {o2 : Option PV} {o3 : Option PV} {μ : Mem} {res : Mem} (h : jf_fill_c68_20 μ = some res) : G shX l D ad ca YJ7_fill_53178 20 [some (.inr 68), o1, o2, o3] [] μ none res := by
  rw [jf_fill_c68_20] at h
  cases h
  exact G.vret dJ7_fill_53178_20 rfl
set_option maxRecDepth 100000 in
theorem eb_jf_fill_c68_5 : ∀ (n : Nat) (x1 : Int) (x2 : Int) (x3 : Int) (μ : Mem) (res : Mem), jf_fill_c68_5 n x1 x2 x3 μ = some res → G shX l D ad ca YJ7_fill_53178 5 [some (.inr 68), some (.inl x1), some (.inl x2), some (.inl x3)] [] μ none res := by
  intro n
  induction n with
  | zero =>
    intro x1 x2 x3 μ res h
    rw [jf_fill_c68_5] at h
    cases h
  | succ n ih =>
    intro x1 x2 x3 μ res h
    rw [jf_fill_c68_5] at h
    refine G.iload_n (i := 2) dJ7_fill_53178_5 rfl rfl ?_
    refine G.iload_n (i := 3) dJ7_fill_53178_6 rfl rfl ?_
    refine G.icmp_ge 20 dJ7_fill_53178_7 rfl (fun c => ?_) (fun c => ?_)
    · replace h := (if_pos c).symm.trans h
      exact eb_jf_fill_c68_20  h
    · replace h := (if_neg c).symm.trans h
      refine G.aload_n (i := 0) dJ7_fill_53178_10 rfl rfl ?_
      refine G.iload_n (i := 2) dJ7_fill_53178_11 rfl rfl ?_
      refine G.iload_n (i := 1) dJ7_fill_53178_12 rfl rfl ?_
      obtain ⟨μ1, hv, h⟩ := bd h
      obtain ⟨hb, rfl⟩ := aput_some hv
      refine G.iast shX_68 hb dJ7_fill_53178_13 ?_
      replace h := bnd_mp h
      refine G.iinc dJ7_fill_53178_14 rfl (Nat.le_of_ble_eq_true rfl) ?_
      refine G.goto 5 dJ7_fill_53178_17 rfl ?_
      exact ih _ _ _ _ _ h
set_option maxRecDepth 100000 in
theorem e_jf_fill_c68 {a1 : Int} {μ : Mem} {res : Mem} (h : jf_fill_c68 a1 μ = some res) : GM shX l D ad ca YJ7_fill_53178 [.inr 68, .inl a1] μ none res := by
  refine GM.of (L := [some (.inr 68), some (.inl a1), none, none]) (by decide +kernel) rfl (Nat.le_of_ble_eq_true rfl) ?_
  rw [jf_fill_c68] at h
  refine G.iconst dJ7_fill_53178_0 ki_0 ?_
  refine G.istore_n (i := 2) dJ7_fill_53178_1 rfl (Nat.le_of_ble_eq_true rfl) ?_
  refine G.aload_n (i := 0) dJ7_fill_53178_2 rfl rfl ?_
  refine G.alen shX_68 rfl ki_206 dJ7_fill_53178_3 ?_
  refine G.istore_n (i := 3) dJ7_fill_53178_4 rfl (Nat.le_of_ble_eq_true rfl) ?_
  exact eb_jf_fill_c68_5  _ _ _ _ _ _ h
set_option maxRecDepth 100000 in
theorem eb_xc_differentTastes_75 {x1 : Int} {o2 : Option PV} {o3 : Option PV} {o4 : Option PV} {μ : Mem} {res : (Int × Mem)} (h : xc_differentTastes_75 x1 μ = some res) : G shX l D ad ca YX1_differentTastes 75 [some (.inr 66), some (.inl x1), o2, o3, o4] [] μ (some (.inl res.1)) res.2 := by
  rw [xc_differentTastes_75] at h
  refine G.iload_n (i := 1) dX1_differentTastes_75 rfl rfl ?_
  cases h
  exact G.iret dX1_differentTastes_76 rfl
set_option maxRecDepth 100000 in
theorem eb_xc_differentTastes_69 {K12 : Int → Int → Mem → Option (Int × Mem)} (hK12 : ∀ (x1 : Int) (x2 : Int) (o3 : Option PV) (o4 : Option PV) (μ : Mem) (res : (Int × Mem)), K12 x1 x2 μ = some res → G shX l D ad ca YX1_differentTastes 12 [some (.inr 66), some (.inl x1), some (.inl x2), o3, o4] [] μ (some (.inl res.1)) res.2) {x1 : Int} {x2 : Int} {o3 : Option PV} {o4 : Option PV} {μ : Mem} {res : (Int × Mem)} (h : xc_differentTastes_69 K12 x1 x2 μ = some res) : G shX l D ad ca YX1_differentTastes 69 [some (.inr 66), some (.inl x1), some (.inl x2), o3, o4] [] μ (some (.inl res.1)) res.2 := by
  rw [xc_differentTastes_69] at h
  replace h := bnd_mp h
  refine G.iinc dX1_differentTastes_69 rfl (Nat.le_of_ble_eq_true rfl) ?_
  refine G.goto 12 dX1_differentTastes_72 rfl ?_
  exact hK12 _ _ _ _ _ _ h
set_option maxRecDepth 100000 in
theorem eb_xc_differentTastes_12 : ∀ (n : Nat) (x1 : Int) (x2 : Int) (o3 : Option PV) (o4 : Option PV) (μ : Mem) (res : (Int × Mem)), xc_differentTastes_12 n x1 x2 μ = some res → G shX l D ad ca YX1_differentTastes 12 [some (.inr 66), some (.inl x1), some (.inl x2), o3, o4] [] μ (some (.inl res.1)) res.2 := by
  intro n
  induction n with
  | zero =>
    intro x1 x2 o3 o4 μ res h
    rw [xc_differentTastes_12] at h
    cases h
  | succ n ih =>
    intro x1 x2 o3 o4 μ res h
    rw [xc_differentTastes_12] at h
    refine G.iload_n (i := 2) dX1_differentTastes_12 rfl rfl ?_
    refine G.aload_n (i := 0) dX1_differentTastes_13 rfl rfl ?_
    refine G.getI ck1 shX_66 2 rfl (by decide) q224 dX1_differentTastes_14 ?_
    refine G.icmp_ge 75 dX1_differentTastes_17 rfl (fun c => ?_) (fun c => ?_)
    · replace h := (if_pos c).symm.trans h
      exact eb_xc_differentTastes_75  h
    · replace h := (if_neg c).symm.trans h
      refine G.aload_n (i := 0) dX1_differentTastes_20 rfl rfl ?_
      refine G.getR ck1 shX_66 1 rfl (by decide) q223 dX1_differentTastes_21 ?_
      refine G.iload_n (i := 2) dX1_differentTastes_24 rfl rfl ?_
      obtain ⟨v2, hv, h⟩ := bd h
      obtain ⟨hb, rfl⟩ := aget_some hv
      refine G.sald shX_67 hb dX1_differentTastes_25 ?_
      refine G.bipush dX1_differentTastes_26 kb_32 ?_
      refine G.idiv dX1_differentTastes_28 (by decide) ?_
      replace h := bnd_mp h
      refine G.istore_n (i := 3) dX1_differentTastes_29 rfl (Nat.le_of_ble_eq_true rfl) ?_
      refine G.iconst dX1_differentTastes_30 ki_1 ?_
      refine G.aload_n (i := 0) dX1_differentTastes_31 rfl rfl ?_
      refine G.getR ck1 shX_66 1 rfl (by decide) q223 dX1_differentTastes_32 ?_
      refine G.iload_n (i := 2) dX1_differentTastes_35 rfl rfl ?_
      obtain ⟨v4, hv, h⟩ := bd h
      obtain ⟨hb, rfl⟩ := aget_some hv
      refine G.sald shX_67 hb dX1_differentTastes_36 ?_
      refine G.bipush dX1_differentTastes_37 kb_32 ?_
      refine G.irem dX1_differentTastes_39 (by decide) ?_
      refine G.ishl dX1_differentTastes_40 ?_
      replace h := bnd_mp h
      refine G.istore dX1_differentTastes_41 (Nat.le_of_ble_eq_true rfl) ?_
      refine G.aload_n (i := 0) dX1_differentTastes_43 rfl rfl ?_
      refine G.getR ck1 shX_66 3 rfl (by decide) q225 dX1_differentTastes_44 ?_
      refine G.iload_n (i := 3) dX1_differentTastes_47 rfl rfl ?_
      obtain ⟨v6, hv, h⟩ := bd h
      obtain ⟨hb, rfl⟩ := aget_some hv
      refine G.iald shX_68 hb dX1_differentTastes_48 ?_
      refine G.iload dX1_differentTastes_49 rfl ?_
      refine G.iand dX1_differentTastes_51 ?_
      refine G.if_ne 69 dX1_differentTastes_52 rfl (fun c => ?_) (fun c => ?_)
      · replace h := (if_neg c).symm.trans h
        exact eb_xc_differentTastes_69 ih h
      · replace h := (if_pos c).symm.trans h
        refine G.aload_n (i := 0) dX1_differentTastes_55 rfl rfl ?_
        refine G.getR ck1 shX_66 3 rfl (by decide) q225 dX1_differentTastes_56 ?_
        refine G.iload_n (i := 3) dX1_differentTastes_59 rfl rfl ?_
        refine G.dup2 dX1_differentTastes_60 ?_
        obtain ⟨v8, hv, h⟩ := bd h
        obtain ⟨hb, rfl⟩ := aget_some hv
        refine G.iald shX_68 hb dX1_differentTastes_61 ?_
        refine G.iload dX1_differentTastes_62 rfl ?_
        refine G.ior dX1_differentTastes_64 ?_
        obtain ⟨μ9, hv, h⟩ := bd h
        obtain ⟨hb, rfl⟩ := aput_some hv
        refine G.iast shX_68 hb dX1_differentTastes_65 ?_
        replace h := bnd_mp h
        refine G.iinc dX1_differentTastes_66 rfl (Nat.le_of_ble_eq_true rfl) ?_
        exact eb_xc_differentTastes_69 ih h
set_option maxRecDepth 100000 in
theorem e_xc_differentTastes {μ : Mem} {res : (Int × Mem)} (h : xc_differentTastes μ = some res) : GM shX l D ad ca YX1_differentTastes [.inr 66] μ (some (.inl res.1)) res.2 := by
  refine GM.of (L := [some (.inr 66), none, none, none, none]) (by decide +kernel) rfl (Nat.le_of_ble_eq_true rfl) ?_
  rw [xc_differentTastes] at h
  refine G.aload_n (i := 0) dX1_differentTastes_0 rfl rfl ?_
  refine G.getR ck1 shX_66 3 rfl (by decide) q225 dX1_differentTastes_1 ?_
  refine G.iconst dX1_differentTastes_4 ki_0 ?_
  obtain ⟨μ1, hv, h⟩ := bd h
  refine G.callS (e_jf_fill_c68 hv) cs_X1_differentTastes_J7_fill_53178 rfl (Nat.le_of_ble_eq_true rfl) q612 q288 dX1_differentTastes_5 ?_
  refine G.iconst dX1_differentTastes_8 ki_0 ?_
  refine G.istore_n (i := 1) dX1_differentTastes_9 rfl (Nat.le_of_ble_eq_true rfl) ?_
  refine G.iconst dX1_differentTastes_10 ki_0 ?_
  refine G.istore_n (i := 2) dX1_differentTastes_11 rfl (Nat.le_of_ble_eq_true rfl) ?_
  exact eb_xc_differentTastes_12  _ _ _ _ _ _ _ h
set_option maxRecDepth 100000 in
theorem e_xx_makes {μ : Mem} {res : (Int × Mem)} (h : xx_makes μ = some res) : GM shX l D ad ca YX7_makes [.inr 0] μ (some (.inl res.1)) res.2 := by
  refine GM.of (L := [some (.inr 0)]) (by decide +kernel) rfl (Nat.le_of_ble_eq_true rfl) ?_
  rw [xx_makes] at h
  refine G.aload_n (i := 0) dX7_makes_0 rfl rfl ?_
  refine G.getR ck7 shX_0 1 rfl (by decide) q237 dX7_makes_1 ?_
  refine G.aload_n (i := 0) dX7_makes_4 rfl rfl ?_
  refine G.getR ck7 shX_0 2 rfl (by decide) q238 dX7_makes_5 ?_
  obtain ⟨μ1, hv, h⟩ := bd h
  refine G.callV (e_xt_learn hv) cs_X7_makes_X5_learn ck5 shX_3 rfl rfl (Nat.le_of_ble_eq_true rfl) q272 q273 q274 dX7_makes_8 ?_
  refine G.aload_n (i := 0) dX7_makes_11 rfl rfl ?_
  refine G.getR ck7 shX_0 8 rfl (by decide) q244 dX7_makes_12 ?_
  refine G.aload_n (i := 0) dX7_makes_15 rfl rfl ?_
  refine G.getR ck7 shX_0 1 rfl (by decide) q237 dX7_makes_16 ?_
  refine G.aload_n (i := 0) dX7_makes_19 rfl rfl ?_
  refine G.getR ck7 shX_0 2 rfl (by decide) q238 dX7_makes_20 ?_
  obtain ⟨μ2, hv, h⟩ := bd h
  refine G.callV (e_xc_spread hv) cs_X7_makes_X1_spread ck1 shX_66 rfl rfl (Nat.le_of_ble_eq_true rfl) q584 q585 q586 dX7_makes_23 ?_
  refine G.aload_n (i := 0) dX7_makes_26 rfl rfl ?_
  refine G.getR ck7 shX_0 8 rfl (by decide) q244 dX7_makes_27 ?_
  obtain ⟨p3, hv, h⟩ := bd h
  refine G.callV (e_xc_differentTastes hv) cs_X7_makes_X1_differentTastes ck1 shX_66 rfl rfl (Nat.le_of_ble_eq_true rfl) q608 q609 q610 dX7_makes_30 ?_
  cases h
  exact G.iret dX7_makes_33 rfl
set_option maxRecDepth 100000 in
theorem eb_xx_jarsLike_44 {x2 : Int} {o1 : Option PV} {o3 : Option PV} {μ : Mem} {res : Int} (h : xx_jarsLike_44 x2 μ = some res) : G shX l D ad ca YX7_jarsLike 44 [some (.inr 0), o1, some (.inl x2), o3] [] μ (some (.inl res)) μ := by
  rw [xx_jarsLike_44] at h
  refine G.iload_n (i := 2) dX7_jarsLike_44 rfl rfl ?_
  cases h
  exact G.iret dX7_jarsLike_45 rfl
set_option maxRecDepth 100000 in
theorem eb_xx_jarsLike_38 {K4 : Int → Int → Int → Mem → Option Int} (hK4 : ∀ (x1 : Int) (x2 : Int) (x3 : Int) (μ : Mem) (res : Int), K4 x1 x2 x3 μ = some res → G shX l D ad ca YX7_jarsLike 4 [some (.inr 0), some (.inl x1), some (.inl x2), some (.inl x3)] [] μ (some (.inl res)) μ) {x1 : Int} {x2 : Int} {x3 : Int} {μ : Mem} {res : Int} (h : xx_jarsLike_38 K4 x1 x2 x3 μ = some res) : G shX l D ad ca YX7_jarsLike 38 [some (.inr 0), some (.inl x1), some (.inl x2), some (.inl x3)] [] μ (some (.inl res)) μ := by
  rw [xx_jarsLike_38] at h
  replace h := bnd_mp h
  refine G.iinc dX7_jarsLike_38 rfl (Nat.le_of_ble_eq_true rfl) ?_
  refine G.goto 4 dX7_jarsLike_41 rfl ?_
  exact hK4 _ _ _ _ _ h
set_option maxRecDepth 100000 in
theorem eb_xx_jarsLike_4 : ∀ (n : Nat) (x1 : Int) (x2 : Int) (x3 : Int) (μ : Mem) (res : Int), xx_jarsLike_4 n x1 x2 x3 μ = some res → G shX l D ad ca YX7_jarsLike 4 [some (.inr 0), some (.inl x1), some (.inl x2), some (.inl x3)] [] μ (some (.inl res)) μ := by
  intro n
  induction n with
  | zero =>
    intro x1 x2 x3 μ res h
    rw [xx_jarsLike_4] at h
    cases h
  | succ n ih =>
    intro x1 x2 x3 μ res h
    rw [xx_jarsLike_4] at h
    refine G.iload_n (i := 3) dX7_jarsLike_4 rfl rfl ?_
    refine G.aload_n (i := 0) dX7_jarsLike_5 rfl rfl ?_
    refine G.getR ck7 shX_0 2 rfl (by decide) q238 dX7_jarsLike_6 ?_
    refine G.getINN ck4 shX_10 2 rfl (by decide) q104 dX7_jarsLike_9 ?_
    refine G.icmp_ge 44 dX7_jarsLike_12 rfl (fun c => ?_) (fun c => ?_)
    · replace h := (if_pos c).symm.trans h
      exact eb_xx_jarsLike_44  h
    · replace h := (if_neg c).symm.trans h
      refine G.aload_n (i := 0) dX7_jarsLike_15 rfl rfl ?_
      refine G.getR ck7 shX_0 1 rfl (by decide) q237 dX7_jarsLike_16 ?_
      refine G.aload_n (i := 0) dX7_jarsLike_19 rfl rfl ?_
      refine G.getR ck7 shX_0 2 rfl (by decide) q238 dX7_jarsLike_20 ?_
      refine G.getRN ck4 shX_10 1 rfl (by decide) q100 dX7_jarsLike_23 ?_
      refine G.iload_n (i := 3) dX7_jarsLike_26 rfl rfl ?_
      obtain ⟨v1, hv, h⟩ := bd h
      obtain ⟨hb, rfl⟩ := aget_some hv
      refine G.iald shX_12 hb dX7_jarsLike_27 ?_
      obtain ⟨v2, hv, h⟩ := bd h
      refine G.callV (e_xt_leastLike hv) cs_X7_jarsLike_X5_leastLike ck5 shX_3 rfl rfl (Nat.le_of_ble_eq_true rfl) q321 q322 q323 dX7_jarsLike_28 ?_
      refine G.iload_n (i := 1) dX7_jarsLike_31 rfl rfl ?_
      refine G.icmp_ne 38 dX7_jarsLike_32 rfl (fun c => ?_) (fun c => ?_)
      · replace h := (if_neg c).symm.trans h
        exact eb_xx_jarsLike_38 ih h
      · replace h := (if_pos c).symm.trans h
        replace h := bnd_mp h
        refine G.iinc dX7_jarsLike_35 rfl (Nat.le_of_ble_eq_true rfl) ?_
        exact eb_xx_jarsLike_38 ih h
set_option maxRecDepth 100000 in
theorem e_xx_jarsLike {a1 : Int} {μ : Mem} {res : Int} (h : xx_jarsLike a1 μ = some res) : GM shX l D ad ca YX7_jarsLike [.inr 0, .inl a1] μ (some (.inl res)) μ := by
  refine GM.of (L := [some (.inr 0), some (.inl a1), none, none]) (by decide +kernel) rfl (Nat.le_of_ble_eq_true rfl) ?_
  rw [xx_jarsLike] at h
  refine G.iconst dX7_jarsLike_0 ki_0 ?_
  refine G.istore_n (i := 2) dX7_jarsLike_1 rfl (Nat.le_of_ble_eq_true rfl) ?_
  refine G.iconst dX7_jarsLike_2 ki_0 ?_
  refine G.istore_n (i := 3) dX7_jarsLike_3 rfl (Nat.le_of_ble_eq_true rfl) ?_
  exact eb_xx_jarsLike_4  _ _ _ _ _ _ h
set_option maxRecDepth 100000 in
theorem eb_xx_mixOf_88 {s0 : Int} {o1 : Option PV} {o2 : Option PV} {μ : Mem} {res : (Int × Mem)} (h : xx_mixOf_88 s0 μ = some res) : G shX l D ad ca YX7_mixOf 88 [some (.inr 0), o1, o2] [.inl s0] μ (some (.inl res.1)) res.2 := by
  rw [xx_mixOf_88] at h
  cases h
  exact G.iret dX7_mixOf_88 rfl
set_option maxRecDepth 100000 in
theorem e_xx_mixOf {a1 : Int} {a2 : Int} {μ : Mem} {res : (Int × Mem)} (h : xx_mixOf a1 a2 μ = some res) : GM shX l D ad ca YX7_mixOf [.inr 0, .inl a1, .inl a2] μ (some (.inl res.1)) res.2 := by
  refine GM.of (L := [some (.inr 0), some (.inl a1), some (.inl a2)]) (by decide +kernel) rfl (Nat.le_of_ble_eq_true rfl) ?_
  rw [xx_mixOf] at h
  refine G.iload_n (i := 1) dX7_mixOf_0 rfl rfl ?_
  obtain ⟨v1, hv, h⟩ := bd h
  refine G.callS (e_xx_isMix hv) cs_X7_mixOf_X7_isMix rfl (Nat.le_of_ble_eq_true rfl) q534 q374 dX7_mixOf_1 ?_
  refine G.if_ne 10 dX7_mixOf_4 rfl (fun c => ?_) (fun c => ?_)
  · replace h := (if_neg c).symm.trans h
    refine G.iload_n (i := 2) dX7_mixOf_10 rfl rfl ?_
    refine G.tsCase 0 52 dX7_mixOf_11 (by decide) (by decide) rfl rfl (fun c0 => ?_) (fun c0 => ?_)
    · replace h := (if_pos c0).symm.trans h
      refine G.iload_n (i := 1) dX7_mixOf_52 rfl rfl ?_
      obtain ⟨v2, hv, h⟩ := bd h
      refine G.callS (e_xx_unitsOf hv) cs_X7_mixOf_X7_unitsOf rfl (Nat.le_of_ble_eq_true rfl) q329 q330 dX7_mixOf_53 ?_
      cases h
      exact G.iret dX7_mixOf_56 rfl
    replace h := (if_neg c0).symm.trans h
    refine G.tsCase 1 57 dX7_mixOf_11 (by decide) (by decide) rfl rfl (fun c1 => ?_) (fun c1 => ?_)
    · replace h := (if_pos c1).symm.trans h
      refine G.iload_n (i := 1) dX7_mixOf_57 rfl rfl ?_
      refine G.aload_n (i := 0) dX7_mixOf_58 rfl rfl ?_
      refine G.getR ck7 shX_0 2 rfl (by decide) q238 dX7_mixOf_59 ?_
      refine G.getRN ck4 shX_10 6 rfl (by decide) q116 dX7_mixOf_62 ?_
      obtain ⟨v3, hv, h⟩ := bd h
      refine G.callS (e_xx_costOf hv) cs_X7_mixOf_X7_costOf rfl (Nat.le_of_ble_eq_true rfl) q474 q427 dX7_mixOf_65 ?_
      cases h
      exact G.iret dX7_mixOf_68 rfl
    replace h := (if_neg c1).symm.trans h
    refine G.tsCase 2 69 dX7_mixOf_11 (by decide) (by decide) rfl rfl (fun c2 => ?_) (fun c2 => ?_)
    · replace h := (if_pos c2).symm.trans h
      refine G.aload_n (i := 0) dX7_mixOf_69 rfl rfl ?_
      refine G.iload_n (i := 1) dX7_mixOf_70 rfl rfl ?_
      obtain ⟨p4, hv, h⟩ := bd h
      refine G.callV (e_xx_tasteOf hv) cs_X7_mixOf_X7_tasteOf ck7 shX_0 rfl rfl (Nat.le_of_ble_eq_true rfl) q475 q477 q11 dX7_mixOf_71 ?_
      cases h
      exact G.iret dX7_mixOf_74 rfl
    replace h := (if_neg c2).symm.trans h
    refine G.tsCase 3 75 dX7_mixOf_11 (by decide) (by decide) rfl rfl (fun c3 => ?_) (fun c3 => ?_)
    · replace h := (if_pos c3).symm.trans h
      refine G.aload_n (i := 0) dX7_mixOf_75 rfl rfl ?_
      refine G.iload_n (i := 1) dX7_mixOf_76 rfl rfl ?_
      obtain ⟨p5, hv, h⟩ := bd h
      refine G.callV (e_xx_tasteOf hv) cs_X7_mixOf_X7_tasteOf ck7 shX_0 rfl rfl (Nat.le_of_ble_eq_true rfl) q475 q477 q11 dX7_mixOf_77 ?_
      refine G.if_ne 87 dX7_mixOf_80 rfl (fun c => ?_) (fun c => ?_)
      · replace h := (if_neg c).symm.trans h
        refine G.iconst dX7_mixOf_87 ki_0 ?_
        exact eb_xx_mixOf_88  h
      · replace h := (if_pos c).symm.trans h
        refine G.iconst dX7_mixOf_83 ki_1 ?_
        refine G.goto 88 dX7_mixOf_84 rfl ?_
        exact eb_xx_mixOf_88  h
    replace h := (if_neg c3).symm.trans h
    refine G.tsCase 4 89 dX7_mixOf_11 (by decide) (by decide) rfl rfl (fun c4 => ?_) (fun c4 => ?_)
    · replace h := (if_pos c4).symm.trans h
      refine G.aload_n (i := 0) dX7_mixOf_89 rfl rfl ?_
      refine G.iload_n (i := 1) dX7_mixOf_90 rfl rfl ?_
      obtain ⟨p6, hv, h⟩ := bd h
      refine G.callV (e_xx_cheapestLike hv) cs_X7_mixOf_X7_cheapestLike ck7 shX_0 rfl rfl (Nat.le_of_ble_eq_true rfl) q479 q481 q12 dX7_mixOf_91 ?_
      cases h
      exact G.iret dX7_mixOf_94 rfl
    replace h := (if_neg c4).symm.trans h
    refine G.tsCase 5 95 dX7_mixOf_11 (by decide) (by decide) rfl rfl (fun c5 => ?_) (fun c5 => ?_)
    · replace h := (if_pos c5).symm.trans h
      refine G.aload_n (i := 0) dX7_mixOf_95 rfl rfl ?_
      refine G.getR ck7 shX_0 0 rfl (by decide) q236 dX7_mixOf_96 ?_
      refine G.iload_n (i := 1) dX7_mixOf_99 rfl rfl ?_
      obtain ⟨v7, hv, h⟩ := bd h
      refine G.callV (e_xj_twice hv) cs_X7_mixOf_X3_twice ck3 shX_1 rfl rfl (Nat.le_of_ble_eq_true rfl) q535 q304 q305 dX7_mixOf_100 ?_
      cases h
      exact G.iret dX7_mixOf_103 rfl
    replace h := (if_neg c5).symm.trans h
    refine G.tsCase 6 104 dX7_mixOf_11 (by decide) (by decide) rfl rfl (fun c6 => ?_) (fun c6 => ?_)
    · replace h := (if_pos c6).symm.trans h
      refine G.aload_n (i := 0) dX7_mixOf_104 rfl rfl ?_
      refine G.aload_n (i := 0) dX7_mixOf_105 rfl rfl ?_
      refine G.iload_n (i := 1) dX7_mixOf_106 rfl rfl ?_
      obtain ⟨p8, hv, h⟩ := bd h
      refine G.callV (e_xx_tasteOf hv) cs_X7_mixOf_X7_tasteOf ck7 shX_0 rfl rfl (Nat.le_of_ble_eq_true rfl) q475 q477 q11 dX7_mixOf_107 ?_
      obtain ⟨v9, hv, h⟩ := bd h
      refine G.callV (e_xx_jarsLike hv) cs_X7_mixOf_X7_jarsLike ck7 shX_0 rfl rfl (Nat.le_of_ble_eq_true rfl) q536 q538 q16 dX7_mixOf_110 ?_
      cases h
      exact G.iret dX7_mixOf_113 rfl
    replace h := (if_neg c6).symm.trans h
    refine G.tsOut 114 dX7_mixOf_11 (by omega) rfl ?_
    refine G.bipush dX7_mixOf_114 kb_m2 ?_
    cases h
    exact G.iret dX7_mixOf_116 rfl
  · replace h := (if_pos c).symm.trans h
    refine G.bipush dX7_mixOf_7 kb_m2 ?_
    cases h
    exact G.iret dX7_mixOf_9 rfl
set_option maxRecDepth 100000 in
theorem e_xa_mixInto {a1 : Int} {a2 : Int} {μ : Mem} {res : (Int × Mem)} (h : xa_mixInto a1 a2 μ = some res) : GM shX l D ad ca YX0_mixInto [.inr 61, .inl a1, .inl a2] μ (some (.inl res.1)) res.2 := by
  refine GM.of (L := [some (.inr 61), some (.inl a1), some (.inl a2), none, none, none]) (by decide +kernel) rfl (Nat.le_of_ble_eq_true rfl) ?_
  rw [xa_mixInto] at h
  refine G.aload_n (i := 0) dX0_mixInto_0 rfl rfl ?_
  refine G.getR ck0 shX_61 0 rfl (by decide) q173 dX0_mixInto_1 ?_
  refine G.getRN ck4 shX_10 1 rfl (by decide) q98 dX0_mixInto_4 ?_
  refine G.iload_n (i := 1) dX0_mixInto_7 rfl rfl ?_
  obtain ⟨v1, hv, h⟩ := bd h
  obtain ⟨hb, rfl⟩ := aget_some hv
  refine G.iald shX_12 hb dX0_mixInto_8 ?_
  refine G.istore_n (i := 3) dX0_mixInto_9 rfl (Nat.le_of_ble_eq_true rfl) ?_
  refine G.aload_n (i := 0) dX0_mixInto_10 rfl rfl ?_
  refine G.getR ck0 shX_61 1 rfl (by decide) q174 dX0_mixInto_11 ?_
  refine G.iload_n (i := 3) dX0_mixInto_14 rfl rfl ?_
  refine G.iload_n (i := 2) dX0_mixInto_15 rfl rfl ?_
  obtain ⟨v2, hv, h⟩ := bd h
  refine G.callV (e_xj_join hv) cs_X0_mixInto_X3_join ck3 shX_1 rfl rfl (Nat.le_of_ble_eq_true rfl) q417 q297 q298 dX0_mixInto_16 ?_
  refine G.istore dX0_mixInto_19 (Nat.le_of_ble_eq_true rfl) ?_
  refine G.iload_n (i := 3) dX0_mixInto_21 rfl rfl ?_
  obtain ⟨v3, hv, h⟩ := bd h
  refine G.callSN (e_xx_unitsOf hv) cs_X0_mixInto_X7_unitsOf rfl (Nat.le_of_ble_eq_true rfl) q385 q330 dX0_mixInto_22 ?_
  refine G.iload_n (i := 2) dX0_mixInto_25 rfl rfl ?_
  obtain ⟨v4, hv, h⟩ := bd h
  refine G.callSN (e_xx_unitsOf hv) cs_X0_mixInto_X7_unitsOf rfl (Nat.le_of_ble_eq_true rfl) q385 q330 dX0_mixInto_26 ?_
  refine G.iadd dX0_mixInto_29 ?_
  refine G.iload dX0_mixInto_30 rfl ?_
  obtain ⟨v5, hv, h⟩ := bd h
  refine G.callSN (e_xx_unitsOf hv) cs_X0_mixInto_X7_unitsOf rfl (Nat.le_of_ble_eq_true rfl) q385 q330 dX0_mixInto_32 ?_
  refine G.isub dX0_mixInto_35 ?_
  replace h := bnd_mp h
  refine G.istore dX0_mixInto_36 (Nat.le_of_ble_eq_true rfl) ?_
  refine G.aload_n (i := 0) dX0_mixInto_38 rfl rfl ?_
  refine G.getR ck0 shX_61 0 rfl (by decide) q173 dX0_mixInto_39 ?_
  refine G.getRN ck4 shX_10 1 rfl (by decide) q98 dX0_mixInto_42 ?_
  refine G.iload_n (i := 1) dX0_mixInto_45 rfl rfl ?_
  refine G.iload dX0_mixInto_46 rfl ?_
  obtain ⟨μ7, hv, h⟩ := bd h
  obtain ⟨hb, rfl⟩ := aput_some hv
  refine G.iast shX_12 hb dX0_mixInto_48 ?_
  refine G.aload_n (i := 0) dX0_mixInto_49 rfl rfl ?_
  refine G.getR ck0 shX_61 0 rfl (by decide) q173 dX0_mixInto_50 ?_
  refine G.getRN ck4 shX_10 9 rfl (by decide) q124 dX0_mixInto_53 ?_
  refine G.iconst dX0_mixInto_56 ki_1 ?_
  refine G.dup2 dX0_mixInto_57 ?_
  refine G.ialdc 1 shX_16 rfl (by decide) dX0_mixInto_58 ?_
  refine G.iload dX0_mixInto_59 rfl ?_
  refine G.iadd dX0_mixInto_61 ?_
  replace h := bnd_mp h
  refine G.iastc 1 shX_16 rfl (by decide) dX0_mixInto_62 ?_
  refine G.iload dX0_mixInto_63 rfl ?_
  cases h
  exact G.iret dX0_mixInto_65 rfl
set_option maxRecDepth 100000 in
theorem e_xa_buyAgain {a1 : Int} {μ : Mem} {res : (Int × Mem)} (h : xa_buyAgain a1 μ = some res) : GM shX l D ad ca YX0_buyAgain [.inr 61, .inl a1] μ (some (.inl res.1)) res.2 := by
  refine GM.of (L := [some (.inr 61), some (.inl a1), none, none]) (by decide +kernel) rfl (Nat.le_of_ble_eq_true rfl) ?_
  rw [xa_buyAgain] at h
  refine G.aload_n (i := 0) dX0_buyAgain_0 rfl rfl ?_
  refine G.getR ck0 shX_61 0 rfl (by decide) q173 dX0_buyAgain_1 ?_
  refine G.iload_n (i := 1) dX0_buyAgain_4 rfl rfl ?_
  obtain ⟨v1, hv, h⟩ := bd h
  refine G.callV (e_xs_placeOf hv) cs_X0_buyAgain_X4_placeOf ck4 shX_10 rfl rfl (Nat.le_of_ble_eq_true rfl) q409 q410 q411 dX0_buyAgain_5 ?_
  refine G.istore_n (i := 2) dX0_buyAgain_8 rfl (Nat.le_of_ble_eq_true rfl) ?_
  refine G.iload_n (i := 2) dX0_buyAgain_9 rfl rfl ?_
  refine G.if_ge 15 dX0_buyAgain_10 rfl (fun c => ?_) (fun c => ?_)
  · replace h := (if_pos c).symm.trans h
    refine G.aload_n (i := 0) dX0_buyAgain_15 rfl rfl ?_
    refine G.getR ck0 shX_61 0 rfl (by decide) q173 dX0_buyAgain_16 ?_
    refine G.getRN ck4 shX_10 1 rfl (by decide) q98 dX0_buyAgain_19 ?_
    refine G.iload_n (i := 2) dX0_buyAgain_22 rfl rfl ?_
    obtain ⟨v2, hv, h⟩ := bd h
    obtain ⟨hb, rfl⟩ := aget_some hv
    refine G.iald shX_12 hb dX0_buyAgain_23 ?_
    refine G.istore_n (i := 3) dX0_buyAgain_24 rfl (Nat.le_of_ble_eq_true rfl) ?_
    refine G.iload_n (i := 3) dX0_buyAgain_25 rfl rfl ?_
    refine G.if_ne 32 dX0_buyAgain_26 rfl (fun c => ?_) (fun c => ?_)
    · replace h := (if_neg c).symm.trans h
      refine G.aload_n (i := 0) dX0_buyAgain_32 rfl rfl ?_
      refine G.getR ck0 shX_61 0 rfl (by decide) q173 dX0_buyAgain_33 ?_
      refine G.getRN ck4 shX_10 9 rfl (by decide) q124 dX0_buyAgain_36 ?_
      refine G.iconst dX0_buyAgain_39 ki_0 ?_
      refine G.dup2 dX0_buyAgain_40 ?_
      refine G.ialdc 0 shX_16 rfl (by decide) dX0_buyAgain_41 ?_
      refine G.iload_n (i := 3) dX0_buyAgain_42 rfl rfl ?_
      obtain ⟨v3, hv, h⟩ := bd h
      refine G.callSN (e_xx_unitsOf hv) cs_X0_buyAgain_X7_unitsOf rfl (Nat.le_of_ble_eq_true rfl) q385 q330 dX0_buyAgain_43 ?_
      refine G.iadd dX0_buyAgain_46 ?_
      replace h := bnd_mp h
      refine G.iastc 0 shX_16 rfl (by decide) dX0_buyAgain_47 ?_
      refine G.aload_n (i := 0) dX0_buyAgain_48 rfl rfl ?_
      refine G.getR ck0 shX_61 0 rfl (by decide) q173 dX0_buyAgain_49 ?_
      refine G.getRN ck4 shX_10 9 rfl (by decide) q124 dX0_buyAgain_52 ?_
      refine G.iconst dX0_buyAgain_55 ki_4 ?_
      refine G.dup2 dX0_buyAgain_56 ?_
      refine G.ialdc 4 shX_16 rfl (by decide) dX0_buyAgain_57 ?_
      refine G.iload_n (i := 3) dX0_buyAgain_58 rfl rfl ?_
      refine G.aload_n (i := 0) dX0_buyAgain_59 rfl rfl ?_
      refine G.getR ck0 shX_61 0 rfl (by decide) q173 dX0_buyAgain_60 ?_
      refine G.getRN ck4 shX_10 6 rfl (by decide) q115 dX0_buyAgain_63 ?_
      obtain ⟨v5, hv, h⟩ := bd h
      refine G.callSN (e_xx_costOf hv) cs_X0_buyAgain_X7_costOf rfl (Nat.le_of_ble_eq_true rfl) q426 q427 dX0_buyAgain_66 ?_
      refine G.iadd dX0_buyAgain_69 ?_
      replace h := bnd_mp h
      refine G.iastc 4 shX_16 rfl (by decide) dX0_buyAgain_70 ?_
      refine G.aload_n (i := 0) dX0_buyAgain_71 rfl rfl ?_
      refine G.iload_n (i := 2) dX0_buyAgain_72 rfl rfl ?_
      refine G.iload_n (i := 3) dX0_buyAgain_73 rfl rfl ?_
      obtain ⟨p7, hv, h⟩ := bd h
      refine G.callV (e_xa_mixInto hv) cs_X0_buyAgain_X0_mixInto ck0 shX_61 rfl rfl (Nat.le_of_ble_eq_true rfl) q413 q415 q10 dX0_buyAgain_74 ?_
      refine G.pop dX0_buyAgain_77 ?_
      refine G.aload_n (i := 0) dX0_buyAgain_78 rfl rfl ?_
      refine G.getR ck0 shX_61 0 rfl (by decide) q173 dX0_buyAgain_79 ?_
      refine G.getRN ck4 shX_10 1 rfl (by decide) q98 dX0_buyAgain_82 ?_
      refine G.iload_n (i := 2) dX0_buyAgain_85 rfl rfl ?_
      obtain ⟨v8, hv, h⟩ := bd h
      obtain ⟨hb, rfl⟩ := aget_some hv
      refine G.iald shX_12 hb dX0_buyAgain_86 ?_
      cases h
      exact G.iret dX0_buyAgain_87 rfl
    · replace h := (if_pos c).symm.trans h
      refine G.bipush dX0_buyAgain_29 kb_m5 ?_
      cases h
      exact G.iret dX0_buyAgain_31 rfl
  · replace h := (if_neg c).symm.trans h
    refine G.iconst dX0_buyAgain_13 ki_m1 ?_
    cases h
    exact G.iret dX0_buyAgain_14 rfl
set_option maxRecDepth 100000 in
theorem e_xx_more {a1 : Int} {μ : Mem} {res : (Int × Mem)} (h : xx_more a1 μ = some res) : GM shX l D ad ca YX7_more [.inr 0, .inl a1] μ (some (.inl res.1)) res.2 := by
  refine GM.of (L := [some (.inr 0), some (.inl a1)]) (by decide +kernel) rfl (Nat.le_of_ble_eq_true rfl) ?_
  rw [xx_more] at h
  refine G.aload_n (i := 0) dX7_more_0 rfl rfl ?_
  refine G.getR ck7 shX_0 5 rfl (by decide) q241 dX7_more_1 ?_
  refine G.aload_n (i := 0) dX7_more_4 rfl rfl ?_
  refine G.getR ck7 shX_0 2 rfl (by decide) q238 dX7_more_5 ?_
  obtain ⟨μ1, hv, h⟩ := bd h
  refine G.callV (e_xh_prepare hv) cs_X7_more_X2_prepare ck2 shX_24 rfl rfl (Nat.le_of_ble_eq_true rfl) q360 q361 q362 dX7_more_8 ?_
  refine G.aload_n (i := 0) dX7_more_11 rfl rfl ?_
  refine G.aload_n (i := 0) dX7_more_12 rfl rfl ?_
  refine G.getR ck7 shX_0 6 rfl (by decide) q242 dX7_more_13 ?_
  refine G.iload_n (i := 1) dX7_more_16 rfl rfl ?_
  obtain ⟨p2, hv, h⟩ := bd h
  refine G.callV (e_xa_buyAgain hv) cs_X7_more_X0_buyAgain ck0 shX_61 rfl rfl (Nat.le_of_ble_eq_true rfl) q422 q423 q424 dX7_more_17 ?_
  obtain ⟨p3, hv, h⟩ := bd h
  refine G.callV (e_xx_ended hv) cs_X7_more_X7_ended ck7 shX_0 rfl rfl (Nat.le_of_ble_eq_true rfl) q390 q392 q9 dX7_more_20 ?_
  cases h
  exact G.iret dX7_more_23 rfl
set_option maxRecDepth 100000 in
theorem eb_jf_fill_c6_20 {o1 : Option PV} {o2 : Option PV} {o3 : Option PV} {μ : Mem} {res : Mem} (h : jf_fill_c6_20 μ = some res) : G shX l D ad ca YJ7_fill_53178 20 [some (.inr 6), o1, o2, o3] [] μ none res := by
  rw [jf_fill_c6_20] at h
  cases h
  exact G.vret dJ7_fill_53178_20 rfl
set_option maxRecDepth 100000 in
theorem eb_jf_fill_c6_5 : ∀ (n : Nat) (x1 : Int) (x2 : Int) (x3 : Int) (μ : Mem) (res : Mem), jf_fill_c6_5 n x1 x2 x3 μ = some res → G shX l D ad ca YJ7_fill_53178 5 [some (.inr 6), some (.inl x1), some (.inl x2), some (.inl x3)] [] μ none res := by
  intro n
  induction n with
  | zero =>
    intro x1 x2 x3 μ res h
    rw [jf_fill_c6_5] at h
    cases h
  | succ n ih =>
    intro x1 x2 x3 μ res h
    rw [jf_fill_c6_5] at h
    refine G.iload_n (i := 2) dJ7_fill_53178_5 rfl rfl ?_
    refine G.iload_n (i := 3) dJ7_fill_53178_6 rfl rfl ?_
    refine G.icmp_ge 20 dJ7_fill_53178_7 rfl (fun c => ?_) (fun c => ?_)
    · replace h := (if_pos c).symm.trans h
      exact eb_jf_fill_c6_20  h
    · replace h := (if_neg c).symm.trans h
      refine G.aload_n (i := 0) dJ7_fill_53178_10 rfl rfl ?_
      refine G.iload_n (i := 2) dJ7_fill_53178_11 rfl rfl ?_
      refine G.iload_n (i := 1) dJ7_fill_53178_12 rfl rfl ?_
      obtain ⟨μ1, hv, h⟩ := bd h
      obtain ⟨hb, rfl⟩ := aput_some hv
      refine G.iast shX_6 hb dJ7_fill_53178_13 ?_
      replace h := bnd_mp h
      refine G.iinc dJ7_fill_53178_14 rfl (Nat.le_of_ble_eq_true rfl) ?_
      refine G.goto 5 dJ7_fill_53178_17 rfl ?_
      exact ih _ _ _ _ _ h
set_option maxRecDepth 100000 in
theorem e_jf_fill_c6 {a1 : Int} {μ : Mem} {res : Mem} (h : jf_fill_c6 a1 μ = some res) : GM shX l D ad ca YJ7_fill_53178 [.inr 6, .inl a1] μ none res := by
  refine GM.of (L := [some (.inr 6), some (.inl a1), none, none]) (by decide +kernel) rfl (Nat.le_of_ble_eq_true rfl) ?_
  rw [jf_fill_c6] at h
  refine G.iconst dJ7_fill_53178_0 ki_0 ?_
  refine G.istore_n (i := 2) dJ7_fill_53178_1 rfl (Nat.le_of_ble_eq_true rfl) ?_
  refine G.aload_n (i := 0) dJ7_fill_53178_2 rfl rfl ?_
  refine G.alen shX_6 rfl ki_8 dJ7_fill_53178_3 ?_
  refine G.istore_n (i := 3) dJ7_fill_53178_4 rfl (Nat.le_of_ble_eq_true rfl) ?_
  exact eb_jf_fill_c6_5  _ _ _ _ _ _ h
set_option maxRecDepth 100000 in
theorem eb_xt_reduced_c6_77 {x3 : Int} {o2 : Option PV} {o4 : Option PV} {o5 : Option PV} {μ : Mem} {res : Int} (h : xt_reduced_c6_77 x3 μ = some res) : G shX l D ad ca YX5_reduced 77 [some (.inr 3), some (.inr 6), o2, some (.inl x3), o4, o5] [] μ (some (.inl res)) μ := by
  rw [xt_reduced_c6_77] at h
  refine G.iload_n (i := 3) dX5_reduced_77 rfl rfl ?_
  cases h
  exact G.iret dX5_reduced_78 rfl
set_option maxRecDepth 100000 in
theorem eb_xt_reduced_c6_71 {K6 : Int → Int → Mem → Option Int} (hK6 : ∀ (x3 : Int) (x4 : Int) (o2 : Option PV) (o5 : Option PV) (μ : Mem) (res : Int), K6 x3 x4 μ = some res → G shX l D ad ca YX5_reduced 6 [some (.inr 3), some (.inr 6), o2, some (.inl x3), some (.inl x4), o5] [] μ (some (.inl res)) μ) {x3 : Int} {x4 : Int} {o2 : Option PV} {o5 : Option PV} {μ : Mem} {res : Int} (h : xt_reduced_c6_71 K6 x3 x4 μ = some res) : G shX l D ad ca YX5_reduced 71 [some (.inr 3), some (.inr 6), o2, some (.inl x3), some (.inl x4), o5] [] μ (some (.inl res)) μ := by
  rw [xt_reduced_c6_71] at h
  replace h := bnd_mp h
  refine G.iinc dX5_reduced_71 rfl (Nat.le_of_ble_eq_true rfl) ?_
  refine G.goto 6 dX5_reduced_74 rfl ?_
  exact hK6 _ _ _ _ _ _ h
set_option maxRecDepth 100000 in
theorem eb_xt_reduced_c6_52 {K6 : Int → Int → Mem → Option Int} (hK6 : ∀ (x3 : Int) (x4 : Int) (o2 : Option PV) (o5 : Option PV) (μ : Mem) (res : Int), K6 x3 x4 μ = some res → G shX l D ad ca YX5_reduced 6 [some (.inr 3), some (.inr 6), o2, some (.inl x3), some (.inl x4), o5] [] μ (some (.inl res)) μ) {x3 : Int} {x4 : Int} {x5 : Int} {o2 : Option PV} {μ : Mem} {res : Int} (h : xt_reduced_c6_52 K6 x3 x4 x5 μ = some res) : G shX l D ad ca YX5_reduced 52 [some (.inr 3), some (.inr 6), o2, some (.inl x3), some (.inl x4), some (.inl x5)] [] μ (some (.inl res)) μ := by
  rw [xt_reduced_c6_52] at h
  refine G.iload dX5_reduced_52 rfl ?_
  refine G.iconst dX5_reduced_54 ki_1 ?_
  refine G.icmp_ne 71 dX5_reduced_55 rfl (fun c => ?_) (fun c => ?_)
  · replace h := (if_neg c).symm.trans h
    exact eb_xt_reduced_c6_71 hK6 h
  · replace h := (if_pos c).symm.trans h
    refine G.aload_n (i := 0) dX5_reduced_58 rfl rfl ?_
    refine G.getR ck5 shX_3 0 rfl (by decide) q58 dX5_reduced_59 ?_
    refine G.iload_n (i := 3) dX5_reduced_62 rfl rfl ?_
    refine G.aload_n (i := 1) dX5_reduced_63 rfl rfl ?_
    refine G.iload dX5_reduced_64 rfl ?_
    obtain ⟨v4, hv, h⟩ := bd h
    obtain ⟨hb, rfl⟩ := aget_some hv
    refine G.iald shX_6 hb dX5_reduced_66 ?_
    obtain ⟨v5, hv, h⟩ := bd h
    refine G.callV (e_xj_join hv) cs_X5_reduced_X3_join ck3 shX_1 rfl rfl (Nat.le_of_ble_eq_true rfl) q296 q297 q298 dX5_reduced_67 ?_
    refine G.istore_n (i := 3) dX5_reduced_70 rfl (Nat.le_of_ble_eq_true rfl) ?_
    exact eb_xt_reduced_c6_71 hK6 h
set_option maxRecDepth 100000 in
theorem eb_xt_reduced_c6_32 {K6 : Int → Int → Mem → Option Int} (hK6 : ∀ (x3 : Int) (x4 : Int) (o2 : Option PV) (o5 : Option PV) (μ : Mem) (res : Int), K6 x3 x4 μ = some res → G shX l D ad ca YX5_reduced 6 [some (.inr 3), some (.inr 6), o2, some (.inl x3), some (.inl x4), o5] [] μ (some (.inl res)) μ) {x3 : Int} {x4 : Int} {s0 : Int} {o2 : Option PV} {o5 : Option PV} {μ : Mem} {res : Int} (h : xt_reduced_c6_32 K6 x3 x4 s0 μ = some res) : G shX l D ad ca YX5_reduced 32 [some (.inr 3), some (.inr 6), o2, some (.inl x3), some (.inl x4), o5] [.inl s0] μ (some (.inl res)) μ := by
  rw [xt_reduced_c6_32] at h
  refine G.istore dX5_reduced_32 (Nat.le_of_ble_eq_true rfl) ?_
  refine G.iload dX5_reduced_34 rfl ?_
  refine G.if_le 52 dX5_reduced_36 rfl (fun c => ?_) (fun c => ?_)
  · replace h := (if_pos c).symm.trans h
    exact eb_xt_reduced_c6_52 hK6 h
  · replace h := (if_neg c).symm.trans h
    refine G.aload_n (i := 0) dX5_reduced_39 rfl rfl ?_
    refine G.getR ck5 shX_3 0 rfl (by decide) q58 dX5_reduced_40 ?_
    refine G.iload_n (i := 3) dX5_reduced_43 rfl rfl ?_
    refine G.aload_n (i := 1) dX5_reduced_44 rfl rfl ?_
    refine G.iload dX5_reduced_45 rfl ?_
    obtain ⟨v6, hv, h⟩ := bd h
    obtain ⟨hb, rfl⟩ := aget_some hv
    refine G.iald shX_6 hb dX5_reduced_47 ?_
    obtain ⟨v7, hv, h⟩ := bd h
    refine G.callV (e_xj_join hv) cs_X5_reduced_X3_join ck3 shX_1 rfl rfl (Nat.le_of_ble_eq_true rfl) q296 q297 q298 dX5_reduced_48 ?_
    refine G.istore_n (i := 3) dX5_reduced_51 rfl (Nat.le_of_ble_eq_true rfl) ?_
    exact eb_xt_reduced_c6_52 hK6 h
set_option maxRecDepth 100000 in
theorem eb_xt_reduced_c6_6 : ∀ (n : Nat) (x3 : Int) (x4 : Int) (o2 : Option PV) (o5 : Option PV) (μ : Mem) (res : Int), xt_reduced_c6_6 n x3 x4 μ = some res → G shX l D ad ca YX5_reduced 6 [some (.inr 3), some (.inr 6), o2, some (.inl x3), some (.inl x4), o5] [] μ (some (.inl res)) μ := by
  intro n
  induction n with
  | zero =>
    intro x3 x4 o2 o5 μ res h
    rw [xt_reduced_c6_6] at h
    cases h
  | succ n ih =>
    intro x3 x4 o2 o5 μ res h
    rw [xt_reduced_c6_6] at h
    refine G.iload dX5_reduced_6 rfl ?_
    refine G.if_lt 77 dX5_reduced_8 rfl (fun c => ?_) (fun c => ?_)
    · replace h := (if_pos c).symm.trans h
      exact eb_xt_reduced_c6_77  h
    · replace h := (if_neg c).symm.trans h
      refine G.aload_n (i := 1) dX5_reduced_11 rfl rfl ?_
      refine G.iload dX5_reduced_12 rfl ?_
      obtain ⟨v1, hv, h⟩ := bd h
      obtain ⟨hb, rfl⟩ := aget_some hv
      refine G.iald shX_6 hb dX5_reduced_14 ?_
      refine G.if_ne 22 dX5_reduced_15 rfl (fun c => ?_) (fun c => ?_)
      · replace h := (if_neg c).symm.trans h
        refine G.iload_n (i := 3) dX5_reduced_22 rfl rfl ?_
        refine G.powN dX5_reduced_23 q294 ?_
        refine G.iload dX5_reduced_26 rfl ?_
        obtain ⟨v2, hv, h⟩ := bd h
        obtain ⟨hb, rfl⟩ := pget_some hv
        refine G.powld hb dX5_reduced_28 ?_
        obtain ⟨hz, h⟩ := ite_nn h
        refine G.idiv dX5_reduced_29 hz ?_
        refine G.iconst dX5_reduced_30 ki_3 ?_
        refine G.irem dX5_reduced_31 (by decide) ?_
        exact eb_xt_reduced_c6_32 ih h
      · replace h := (if_pos c).symm.trans h
        refine G.iconst dX5_reduced_18 ki_0 ?_
        refine G.goto 32 dX5_reduced_19 rfl ?_
        exact eb_xt_reduced_c6_32 ih h
set_option maxRecDepth 100000 in
theorem e_xt_reduced_c6 {a1 : Int} {μ : Mem} {res : Int} (h : xt_reduced_c6 a1 μ = some res) : GM shX l D ad ca YX5_reduced [.inr 3, .inr 6, .inl a1] μ (some (.inl res)) μ := by
  refine GM.of (L := [some (.inr 3), some (.inr 6), some (.inl a1), none, none, none]) (by decide +kernel) rfl (Nat.le_of_ble_eq_true rfl) ?_
  rw [xt_reduced_c6] at h
  refine G.iload_n (i := 2) dX5_reduced_0 rfl rfl ?_
  refine G.istore_n (i := 3) dX5_reduced_1 rfl (Nat.le_of_ble_eq_true rfl) ?_
  refine G.bipush dX5_reduced_2 kb_7 ?_
  refine G.istore dX5_reduced_4 (Nat.le_of_ble_eq_true rfl) ?_
  exact eb_xt_reduced_c6_6  _ _ _ _ _ _ _ h
set_option maxRecDepth 100000 in
theorem eb_xt_findLeads_c6_107 {x3 : Int} {o2 : Option PV} {o4 : Option PV} {o5 : Option PV} {o6 : Option PV} {o7 : Option PV} {μ : Mem} {res : (Int × Mem)} (h : xt_findLeads_c6_107 x3 μ = some res) : G shX l D ad ca YX5_findLeads 107 [some (.inr 3), some (.inr 6), o2, some (.inl x3), o4, o5, o6, o7] [] μ (some (.inl res.1)) res.2 := by
  rw [xt_findLeads_c6_107] at h
  refine G.iload_n (i := 3) dX5_findLeads_107 rfl rfl ?_
  cases h
  exact G.iret dX5_findLeads_108 rfl
set_option maxRecDepth 100000 in
theorem eb_xt_findLeads_c6_101 {K10 : Int → Int → Int → Mem → Option (Int × Mem)} (hK10 : ∀ (x2 : Int) (x3 : Int) (x4 : Int) (o5 : Option PV) (o6 : Option PV) (o7 : Option PV) (μ : Mem) (res : (Int × Mem)), K10 x2 x3 x4 μ = some res → G shX l D ad ca YX5_findLeads 10 [some (.inr 3), some (.inr 6), some (.inl x2), some (.inl x3), some (.inl x4), o5, o6, o7] [] μ (some (.inl res.1)) res.2) {x2 : Int} {x3 : Int} {x4 : Int} {o5 : Option PV} {o6 : Option PV} {o7 : Option PV} {μ : Mem} {res : (Int × Mem)} (h : xt_findLeads_c6_101 K10 x2 x3 x4 μ = some res) : G shX l D ad ca YX5_findLeads 101 [some (.inr 3), some (.inr 6), some (.inl x2), some (.inl x3), some (.inl x4), o5, o6, o7] [] μ (some (.inl res.1)) res.2 := by
  rw [xt_findLeads_c6_101] at h
  replace h := bnd_mp h
  refine G.iinc dX5_findLeads_101 rfl (Nat.le_of_ble_eq_true rfl) ?_
  refine G.goto 10 dX5_findLeads_104 rfl ?_
  exact hK10 _ _ _ _ _ _ _ _ h
set_option maxRecDepth 100000 in
theorem eb_xt_findLeads_c6_97 {K10 : Int → Int → Int → Mem → Option (Int × Mem)} (hK10 : ∀ (x2 : Int) (x3 : Int) (x4 : Int) (o5 : Option PV) (o6 : Option PV) (o7 : Option PV) (μ : Mem) (res : (Int × Mem)), K10 x2 x3 x4 μ = some res → G shX l D ad ca YX5_findLeads 10 [some (.inr 3), some (.inr 6), some (.inl x2), some (.inl x3), some (.inl x4), o5, o6, o7] [] μ (some (.inl res.1)) res.2) {x2 : Int} {x3 : Int} {x4 : Int} {s1 : Int} {s2 : Int} {o5 : Option PV} {o6 : Option PV} {o7 : Option PV} {μ : Mem} {res : (Int × Mem)} (h : xt_findLeads_c6_97 K10 x2 x3 x4 s1 s2 μ = some res) : G shX l D ad ca YX5_findLeads 97 [some (.inr 3), some (.inr 6), some (.inl x2), some (.inl x3), some (.inl x4), o5, o6, o7] [.inl s2, .inl s1, .inr 6] μ (some (.inl res.1)) res.2 := by
  rw [xt_findLeads_c6_97] at h
  obtain ⟨μ8, hv, h⟩ := bd h
  obtain ⟨hb, rfl⟩ := aput_some hv
  refine G.iast shX_6 hb dX5_findLeads_97 ?_
  replace h := bnd_mp h
  refine G.iinc dX5_findLeads_98 rfl (Nat.le_of_ble_eq_true rfl) ?_
  exact eb_xt_findLeads_c6_101 hK10 h
set_option maxRecDepth 100000 in
theorem eb_xt_findLeads_c6_73 {K10 : Int → Int → Int → Mem → Option (Int × Mem)} (hK10 : ∀ (x2 : Int) (x3 : Int) (x4 : Int) (o5 : Option PV) (o6 : Option PV) (o7 : Option PV) (μ : Mem) (res : (Int × Mem)), K10 x2 x3 x4 μ = some res → G shX l D ad ca YX5_findLeads 10 [some (.inr 3), some (.inr 6), some (.inl x2), some (.inl x3), some (.inl x4), o5, o6, o7] [] μ (some (.inl res.1)) res.2) {x2 : Int} {x3 : Int} {x4 : Int} {x5 : Int} {x6 : Int} {s0 : Int} {o7 : Option PV} {μ : Mem} {res : (Int × Mem)} (h : xt_findLeads_c6_73 K10 x2 x3 x4 x5 x6 s0 μ = some res) : G shX l D ad ca YX5_findLeads 73 [some (.inr 3), some (.inr 6), some (.inl x2), some (.inl x3), some (.inl x4), some (.inl x5), some (.inl x6), o7] [.inl s0] μ (some (.inl res.1)) res.2 := by
  rw [xt_findLeads_c6_73] at h
  refine G.istore dX5_findLeads_73 (Nat.le_of_ble_eq_true rfl) ?_
  refine G.aload_n (i := 1) dX5_findLeads_75 rfl rfl ?_
  refine G.iload dX5_findLeads_76 rfl ?_
  refine G.iload dX5_findLeads_78 rfl ?_
  refine G.if_eq 88 dX5_findLeads_80 rfl (fun c => ?_) (fun c => ?_)
  · replace h := (if_pos c).symm.trans h
    refine G.aload_n (i := 0) dX5_findLeads_88 rfl rfl ?_
    refine G.getR ck5 shX_3 0 rfl (by decide) q58 dX5_findLeads_89 ?_
    refine G.iload dX5_findLeads_92 rfl ?_
    obtain ⟨v7, hv, h⟩ := bd h
    refine G.callV (e_xj_twice hv) cs_X5_findLeads_X3_twice ck3 shX_1 rfl rfl (Nat.le_of_ble_eq_true rfl) q303 q304 q305 dX5_findLeads_94 ?_
    exact eb_xt_findLeads_c6_97 hK10 h
  · replace h := (if_neg c).symm.trans h
    refine G.iload dX5_findLeads_83 rfl ?_
    refine G.goto 97 dX5_findLeads_85 rfl ?_
    exact eb_xt_findLeads_c6_97 hK10 h
set_option maxRecDepth 100000 in
theorem eb_xt_findLeads_c6_41 {K10 : Int → Int → Int → Mem → Option (Int × Mem)} (hK10 : ∀ (x2 : Int) (x3 : Int) (x4 : Int) (o5 : Option PV) (o6 : Option PV) (o7 : Option PV) (μ : Mem) (res : (Int × Mem)), K10 x2 x3 x4 μ = some res → G shX l D ad ca YX5_findLeads 10 [some (.inr 3), some (.inr 6), some (.inl x2), some (.inl x3), some (.inl x4), o5, o6, o7] [] μ (some (.inl res.1)) res.2) {x2 : Int} {x3 : Int} {x4 : Int} {s0 : Int} {o5 : Option PV} {o6 : Option PV} {o7 : Option PV} {μ : Mem} {res : (Int × Mem)} (h : xt_findLeads_c6_41 K10 x2 x3 x4 s0 μ = some res) : G shX l D ad ca YX5_findLeads 41 [some (.inr 3), some (.inr 6), some (.inl x2), some (.inl x3), some (.inl x4), o5, o6, o7] [.inl s0] μ (some (.inl res.1)) res.2 := by
  rw [xt_findLeads_c6_41] at h
  refine G.istore dX5_findLeads_41 (Nat.le_of_ble_eq_true rfl) ?_
  refine G.iload dX5_findLeads_43 rfl ?_
  refine G.if_eq 101 dX5_findLeads_45 rfl (fun c => ?_) (fun c => ?_)
  · replace h := (if_pos c).symm.trans h
    exact eb_xt_findLeads_c6_101 hK10 h
  · replace h := (if_neg c).symm.trans h
    refine G.iload dX5_findLeads_48 rfl ?_
    obtain ⟨v5, hv, h⟩ := bd h
    refine G.callS (e_xt_highestSpice hv) cs_X5_findLeads_X5_highestSpice rfl (Nat.le_of_ble_eq_true rfl) q300 q301 dX5_findLeads_50 ?_
    refine G.istore dX5_findLeads_53 (Nat.le_of_ble_eq_true rfl) ?_
    refine G.iload dX5_findLeads_55 rfl ?_
    refine G.powN dX5_findLeads_57 q294 ?_
    refine G.iload dX5_findLeads_60 rfl ?_
    obtain ⟨v6, hv, h⟩ := bd h
    obtain ⟨hb, rfl⟩ := pget_some hv
    refine G.powld hb dX5_findLeads_62 ?_
    obtain ⟨hz, h⟩ := ite_nn h
    refine G.idiv dX5_findLeads_63 hz ?_
    refine G.iconst dX5_findLeads_64 ki_1 ?_
    refine G.icmp_ne 72 dX5_findLeads_65 rfl (fun c => ?_) (fun c => ?_)
    · replace h := (if_neg c).symm.trans h
      refine G.iconst dX5_findLeads_72 ki_0 ?_
      exact eb_xt_findLeads_c6_73 hK10 h
    · replace h := (if_pos c).symm.trans h
      refine G.iconst dX5_findLeads_68 ki_1 ?_
      refine G.goto 73 dX5_findLeads_69 rfl ?_
      exact eb_xt_findLeads_c6_73 hK10 h
set_option maxRecDepth 100000 in
theorem eb_xt_findLeads_c6_10 : ∀ (n : Nat) (x2 : Int) (x3 : Int) (x4 : Int) (o5 : Option PV) (o6 : Option PV) (o7 : Option PV) (μ : Mem) (res : (Int × Mem)), xt_findLeads_c6_10 n x2 x3 x4 μ = some res → G shX l D ad ca YX5_findLeads 10 [some (.inr 3), some (.inr 6), some (.inl x2), some (.inl x3), some (.inl x4), o5, o6, o7] [] μ (some (.inl res.1)) res.2 := by
  intro n
  induction n with
  | zero =>
    intro x2 x3 x4 o5 o6 o7 μ res h
    rw [xt_findLeads_c6_10] at h
    cases h
  | succ n ih =>
    intro x2 x3 x4 o5 o6 o7 μ res h
    rw [xt_findLeads_c6_10] at h
    refine G.iload dX5_findLeads_10 rfl ?_
    refine G.aload_n (i := 0) dX5_findLeads_12 rfl rfl ?_
    refine G.getI ck5 shX_3 2 rfl (by decide) q60 dX5_findLeads_13 ?_
    refine G.icmp_ge 107 dX5_findLeads_16 rfl (fun c => ?_) (fun c => ?_)
    · replace h := (if_pos c).symm.trans h
      exact eb_xt_findLeads_c6_107  h
    · replace h := (if_neg c).symm.trans h
      refine G.iload dX5_findLeads_19 rfl ?_
      refine G.iload_n (i := 2) dX5_findLeads_21 rfl rfl ?_
      refine G.icmp_ne 29 dX5_findLeads_22 rfl (fun c => ?_) (fun c => ?_)
      · replace h := (if_neg c).symm.trans h
        refine G.aload_n (i := 0) dX5_findLeads_29 rfl rfl ?_
        refine G.aload_n (i := 1) dX5_findLeads_30 rfl rfl ?_
        refine G.aload_n (i := 0) dX5_findLeads_31 rfl rfl ?_
        refine G.getR ck5 shX_3 1 rfl (by decide) q59 dX5_findLeads_32 ?_
        refine G.iload dX5_findLeads_35 rfl ?_
        obtain ⟨v2, hv, h⟩ := bd h
        obtain ⟨hb, rfl⟩ := aget_some hv
        refine G.iald shX_4 hb dX5_findLeads_37 ?_
        obtain ⟨v3, hv, h⟩ := bd h
        refine G.callV (e_xt_reduced_c6 hv) cs_X5_findLeads_X5_reduced ck5 shX_3 rfl rfl (Nat.le_of_ble_eq_true rfl) q290 q292 q3 dX5_findLeads_38 ?_
        exact eb_xt_findLeads_c6_41 ih h
      · replace h := (if_pos c).symm.trans h
        refine G.iconst dX5_findLeads_25 ki_0 ?_
        refine G.goto 41 dX5_findLeads_26 rfl ?_
        exact eb_xt_findLeads_c6_41 ih h
set_option maxRecDepth 100000 in
theorem e_xt_findLeads_c6 {a1 : Int} {μ : Mem} {res : (Int × Mem)} (h : xt_findLeads_c6 a1 μ = some res) : GM shX l D ad ca YX5_findLeads [.inr 3, .inr 6, .inl a1] μ (some (.inl res.1)) res.2 := by
  refine GM.of (L := [some (.inr 3), some (.inr 6), some (.inl a1), none, none, none, none, none]) (by decide +kernel) rfl (Nat.le_of_ble_eq_true rfl) ?_
  rw [xt_findLeads_c6] at h
  refine G.aload_n (i := 1) dX5_findLeads_0 rfl rfl ?_
  refine G.iconst dX5_findLeads_1 ki_0 ?_
  obtain ⟨μ1, hv, h⟩ := bd h
  refine G.callS (e_jf_fill_c6 hv) cs_X5_findLeads_J7_fill_53178 rfl (Nat.le_of_ble_eq_true rfl) q287 q288 dX5_findLeads_2 ?_
  refine G.iconst dX5_findLeads_5 ki_0 ?_
  refine G.istore_n (i := 3) dX5_findLeads_6 rfl (Nat.le_of_ble_eq_true rfl) ?_
  refine G.iconst dX5_findLeads_7 ki_0 ?_
  refine G.istore dX5_findLeads_8 (Nat.le_of_ble_eq_true rfl) ?_
  exact eb_xt_findLeads_c6_10  _ _ _ _ _ _ _ _ _ h
set_option maxRecDepth 100000 in
theorem eb_xt_firstNeedless_34 {o1 : Option PV} {μ : Mem} {res : (Int × Mem)} (h : xt_firstNeedless_34 μ = some res) : G shX l D ad ca YX5_firstNeedless 34 [some (.inr 3), o1] [] μ (some (.inl res.1)) res.2 := by
  rw [xt_firstNeedless_34] at h
  refine G.bipush dX5_firstNeedless_34 kb_m5 ?_
  cases h
  exact G.iret dX5_firstNeedless_36 rfl
set_option maxRecDepth 100000 in
theorem eb_xt_firstNeedless_26 {x1 : Int} {μ : Mem} {res : (Int × Mem)} (h : xt_firstNeedless_26 x1 μ = some res) : G shX l D ad ca YX5_firstNeedless 26 [some (.inr 3), some (.inl x1)] [] μ (some (.inl res.1)) res.2 := by
  rw [xt_firstNeedless_26] at h
  refine G.iload_n (i := 1) dX5_firstNeedless_26 rfl rfl ?_
  cases h
  exact G.iret dX5_firstNeedless_27 rfl
set_option maxRecDepth 100000 in
theorem eb_xt_firstNeedless_2 : ∀ (n : Nat) (x1 : Int) (μ : Mem) (res : (Int × Mem)), xt_firstNeedless_2 n x1 μ = some res → G shX l D ad ca YX5_firstNeedless 2 [some (.inr 3), some (.inl x1)] [] μ (some (.inl res.1)) res.2 := by
  intro n
  induction n with
  | zero =>
    intro x1 μ res h
    rw [xt_firstNeedless_2] at h
    cases h
  | succ n ih =>
    intro x1 μ res h
    rw [xt_firstNeedless_2] at h
    refine G.iload_n (i := 1) dX5_firstNeedless_2 rfl rfl ?_
    refine G.aload_n (i := 0) dX5_firstNeedless_3 rfl rfl ?_
    refine G.getI ck5 shX_3 2 rfl (by decide) q60 dX5_firstNeedless_4 ?_
    refine G.icmp_ge 34 dX5_firstNeedless_7 rfl (fun c => ?_) (fun c => ?_)
    · replace h := (if_pos c).symm.trans h
      exact eb_xt_firstNeedless_34  h
    · replace h := (if_neg c).symm.trans h
      refine G.aload_n (i := 0) dX5_firstNeedless_10 rfl rfl ?_
      refine G.aload_n (i := 0) dX5_firstNeedless_11 rfl rfl ?_
      refine G.getR ck5 shX_3 5 rfl (by decide) q64 dX5_firstNeedless_12 ?_
      refine G.iload_n (i := 1) dX5_firstNeedless_15 rfl rfl ?_
      obtain ⟨p1, hv, h⟩ := bd h
      refine G.callV (e_xt_findLeads_c6 hv) cs_X5_firstNeedless_X5_findLeads ck5 shX_3 rfl rfl (Nat.le_of_ble_eq_true rfl) q283 q285 q2 dX5_firstNeedless_16 ?_
      refine G.aload_n (i := 0) dX5_firstNeedless_19 rfl rfl ?_
      refine G.getI ck5 shX_3 3 rfl (by decide) q61 dX5_firstNeedless_20 ?_
      refine G.icmp_ne 28 dX5_firstNeedless_23 rfl (fun c => ?_) (fun c => ?_)
      · replace h := (if_neg c).symm.trans h
        replace h := bnd_mp h
        refine G.iinc dX5_firstNeedless_28 rfl (Nat.le_of_ble_eq_true rfl) ?_
        refine G.goto 2 dX5_firstNeedless_31 rfl ?_
        exact ih _ _ _ h
      · replace h := (if_pos c).symm.trans h
        exact eb_xt_firstNeedless_26  h
set_option maxRecDepth 100000 in
theorem e_xt_firstNeedless {μ : Mem} {res : (Int × Mem)} (h : xt_firstNeedless μ = some res) : GM shX l D ad ca YX5_firstNeedless [.inr 3] μ (some (.inl res.1)) res.2 := by
  refine GM.of (L := [some (.inr 3), none]) (by decide +kernel) rfl (Nat.le_of_ble_eq_true rfl) ?_
  rw [xt_firstNeedless] at h
  refine G.iconst dX5_firstNeedless_0 ki_0 ?_
  refine G.istore_n (i := 1) dX5_firstNeedless_1 rfl (Nat.le_of_ble_eq_true rfl) ?_
  exact eb_xt_firstNeedless_2  _ _ _ _ h
set_option maxRecDepth 100000 in
theorem e_xx_needless {μ : Mem} {res : (Int × Mem)} (h : xx_needless μ = some res) : GM shX l D ad ca YX7_needless [.inr 0] μ (some (.inl res.1)) res.2 := by
  refine GM.of (L := [some (.inr 0)]) (by decide +kernel) rfl (Nat.le_of_ble_eq_true rfl) ?_
  rw [xx_needless] at h
  refine G.aload_n (i := 0) dX7_needless_0 rfl rfl ?_
  refine G.getR ck7 shX_0 1 rfl (by decide) q237 dX7_needless_1 ?_
  refine G.aload_n (i := 0) dX7_needless_4 rfl rfl ?_
  refine G.getR ck7 shX_0 2 rfl (by decide) q238 dX7_needless_5 ?_
  obtain ⟨μ1, hv, h⟩ := bd h
  refine G.callV (e_xt_learn hv) cs_X7_needless_X5_learn ck5 shX_3 rfl rfl (Nat.le_of_ble_eq_true rfl) q272 q273 q274 dX7_needless_8 ?_
  refine G.aload_n (i := 0) dX7_needless_11 rfl rfl ?_
  refine G.getR ck7 shX_0 1 rfl (by decide) q237 dX7_needless_12 ?_
  obtain ⟨p2, hv, h⟩ := bd h
  refine G.callV (e_xt_firstNeedless hv) cs_X7_needless_X5_firstNeedless ck5 shX_3 rfl rfl (Nat.le_of_ble_eq_true rfl) q620 q621 q622 dX7_needless_15 ?_
  cases h
  exact G.iret dX7_needless_18 rfl
set_option maxRecDepth 100000 in
theorem eb_xa_pourInto_28 {o1 : Option PV} {o2 : Option PV} {o3 : Option PV} {o4 : Option PV} {o5 : Option PV} {μ : Mem} {res : (Int × Mem)} (h : xa_pourInto_28 μ = some res) : G shX l D ad ca YX0_pourInto 28 [some (.inr 61), o1, o2, o3, o4, o5] [] μ (some (.inl res.1)) res.2 := by
  rw [xa_pourInto_28] at h
  refine G.iconst dX0_pourInto_28 ki_m1 ?_
  cases h
  exact G.iret dX0_pourInto_29 rfl
set_option maxRecDepth 100000 in
theorem e_xa_pourInto {a1 : Int} {a2 : Int} {μ : Mem} {res : (Int × Mem)} (h : xa_pourInto a1 a2 μ = some res) : GM shX l D ad ca YX0_pourInto [.inr 61, .inl a1, .inl a2] μ (some (.inl res.1)) res.2 := by
  refine GM.of (L := [some (.inr 61), some (.inl a1), some (.inl a2), none, none, none]) (by decide +kernel) rfl (Nat.le_of_ble_eq_true rfl) ?_
  rw [xa_pourInto] at h
  refine G.aload_n (i := 0) dX0_pourInto_0 rfl rfl ?_
  refine G.getR ck0 shX_61 0 rfl (by decide) q173 dX0_pourInto_1 ?_
  refine G.iload_n (i := 1) dX0_pourInto_4 rfl rfl ?_
  obtain ⟨v1, hv, h⟩ := bd h
  refine G.callV (e_xs_placeOf hv) cs_X0_pourInto_X4_placeOf ck4 shX_10 rfl rfl (Nat.le_of_ble_eq_true rfl) q409 q410 q411 dX0_pourInto_5 ?_
  refine G.istore_n (i := 3) dX0_pourInto_8 rfl (Nat.le_of_ble_eq_true rfl) ?_
  refine G.aload_n (i := 0) dX0_pourInto_9 rfl rfl ?_
  refine G.getR ck0 shX_61 0 rfl (by decide) q173 dX0_pourInto_10 ?_
  refine G.iload_n (i := 2) dX0_pourInto_13 rfl rfl ?_
  obtain ⟨v2, hv, h⟩ := bd h
  refine G.callV (e_xs_placeOf hv) cs_X0_pourInto_X4_placeOf ck4 shX_10 rfl rfl (Nat.le_of_ble_eq_true rfl) q409 q410 q411 dX0_pourInto_14 ?_
  refine G.istore dX0_pourInto_17 (Nat.le_of_ble_eq_true rfl) ?_
  refine G.iload_n (i := 3) dX0_pourInto_19 rfl rfl ?_
  refine G.if_lt 28 dX0_pourInto_20 rfl (fun c => ?_) (fun c => ?_)
  · replace h := (if_pos c).symm.trans h
    exact eb_xa_pourInto_28  h
  · replace h := (if_neg c).symm.trans h
    refine G.iload dX0_pourInto_23 rfl ?_
    refine G.if_ge 30 dX0_pourInto_25 rfl (fun c => ?_) (fun c => ?_)
    · replace h := (if_pos c).symm.trans h
      refine G.iload_n (i := 3) dX0_pourInto_30 rfl rfl ?_
      refine G.iload dX0_pourInto_31 rfl ?_
      refine G.icmp_ne 39 dX0_pourInto_33 rfl (fun c => ?_) (fun c => ?_)
      · replace h := (if_neg c).symm.trans h
        refine G.aload_n (i := 0) dX0_pourInto_39 rfl rfl ?_
        refine G.getR ck0 shX_61 0 rfl (by decide) q173 dX0_pourInto_40 ?_
        refine G.getRN ck4 shX_10 1 rfl (by decide) q98 dX0_pourInto_43 ?_
        refine G.iload_n (i := 3) dX0_pourInto_46 rfl rfl ?_
        obtain ⟨v3, hv, h⟩ := bd h
        obtain ⟨hb, rfl⟩ := aget_some hv
        refine G.iald shX_12 hb dX0_pourInto_47 ?_
        refine G.istore dX0_pourInto_48 (Nat.le_of_ble_eq_true rfl) ?_
        refine G.iload dX0_pourInto_50 rfl ?_
        refine G.if_ne 58 dX0_pourInto_52 rfl (fun c => ?_) (fun c => ?_)
        · replace h := (if_neg c).symm.trans h
          refine G.aload_n (i := 0) dX0_pourInto_58 rfl rfl ?_
          refine G.getR ck0 shX_61 0 rfl (by decide) q173 dX0_pourInto_59 ?_
          refine G.getRN ck4 shX_10 1 rfl (by decide) q98 dX0_pourInto_62 ?_
          refine G.iload_n (i := 3) dX0_pourInto_65 rfl rfl ?_
          refine G.iconst dX0_pourInto_66 ki_0 ?_
          obtain ⟨μ4, hv, h⟩ := bd h
          obtain ⟨hb, rfl⟩ := aput_some hv
          refine G.iast shX_12 hb dX0_pourInto_67 ?_
          refine G.aload_n (i := 0) dX0_pourInto_68 rfl rfl ?_
          refine G.iload dX0_pourInto_69 rfl ?_
          refine G.iload dX0_pourInto_71 rfl ?_
          obtain ⟨p5, hv, h⟩ := bd h
          refine G.callV (e_xa_mixInto hv) cs_X0_pourInto_X0_mixInto ck0 shX_61 rfl rfl (Nat.le_of_ble_eq_true rfl) q413 q415 q10 dX0_pourInto_73 ?_
          cases h
          exact G.iret dX0_pourInto_76 rfl
        · replace h := (if_pos c).symm.trans h
          refine G.bipush dX0_pourInto_55 kb_m5 ?_
          cases h
          exact G.iret dX0_pourInto_57 rfl
      · replace h := (if_pos c).symm.trans h
        refine G.bipush dX0_pourInto_36 kb_m2 ?_
        cases h
        exact G.iret dX0_pourInto_38 rfl
    · replace h := (if_neg c).symm.trans h
      exact eb_xa_pourInto_28  h
set_option maxRecDepth 100000 in
theorem e_xx_pour {a1 : Int} {a2 : Int} {μ : Mem} {res : (Int × Mem)} (h : xx_pour a1 a2 μ = some res) : GM shX l D ad ca YX7_pour [.inr 0, .inl a1, .inl a2] μ (some (.inl res.1)) res.2 := by
  refine GM.of (L := [some (.inr 0), some (.inl a1), some (.inl a2)]) (by decide +kernel) rfl (Nat.le_of_ble_eq_true rfl) ?_
  rw [xx_pour] at h
  refine G.aload_n (i := 0) dX7_pour_0 rfl rfl ?_
  refine G.getR ck7 shX_0 5 rfl (by decide) q241 dX7_pour_1 ?_
  refine G.aload_n (i := 0) dX7_pour_4 rfl rfl ?_
  refine G.getR ck7 shX_0 2 rfl (by decide) q238 dX7_pour_5 ?_
  obtain ⟨μ1, hv, h⟩ := bd h
  refine G.callV (e_xh_prepare hv) cs_X7_pour_X2_prepare ck2 shX_24 rfl rfl (Nat.le_of_ble_eq_true rfl) q360 q361 q362 dX7_pour_8 ?_
  refine G.aload_n (i := 0) dX7_pour_11 rfl rfl ?_
  refine G.aload_n (i := 0) dX7_pour_12 rfl rfl ?_
  refine G.getR ck7 shX_0 6 rfl (by decide) q242 dX7_pour_13 ?_
  refine G.iload_n (i := 1) dX7_pour_16 rfl rfl ?_
  refine G.iload_n (i := 2) dX7_pour_17 rfl rfl ?_
  obtain ⟨p2, hv, h⟩ := bd h
  refine G.callV (e_xa_pourInto hv) cs_X7_pour_X0_pourInto ck0 shX_61 rfl rfl (Nat.le_of_ble_eq_true rfl) q405 q406 q407 dX7_pour_18 ?_
  obtain ⟨p3, hv, h⟩ := bd h
  refine G.callV (e_xx_ended hv) cs_X7_pour_X7_ended ck7 shX_0 rfl rfl (Nat.le_of_ble_eq_true rfl) q390 q392 q9 dX7_pour_21 ?_
  cases h
  exact G.iret dX7_pour_24 rfl
set_option maxRecDepth 100000 in
theorem eb_xa_setPrice_10 {o1 : Option PV} {o2 : Option PV} {o3 : Option PV} {μ : Mem} {res : (Int × Mem)} (h : xa_setPrice_10 μ = some res) : G shX l D ad ca YX0_setPrice 10 [some (.inr 61), o1, o2, o3] [] μ (some (.inl res.1)) res.2 := by
  rw [xa_setPrice_10] at h
  refine G.iconst dX0_setPrice_10 ki_m1 ?_
  cases h
  exact G.iret dX0_setPrice_11 rfl
set_option maxRecDepth 100000 in
theorem eb_xa_setPrice_22 {o1 : Option PV} {o2 : Option PV} {o3 : Option PV} {μ : Mem} {res : (Int × Mem)} (h : xa_setPrice_22 μ = some res) : G shX l D ad ca YX0_setPrice 22 [some (.inr 61), o1, o2, o3] [] μ (some (.inl res.1)) res.2 := by
  rw [xa_setPrice_22] at h
  refine G.bipush dX0_setPrice_22 kb_m2 ?_
  cases h
  exact G.iret dX0_setPrice_24 rfl
set_option maxRecDepth 100000 in
theorem e_xa_setPrice {a1 : Int} {a2 : Int} {μ : Mem} {res : (Int × Mem)} (h : xa_setPrice a1 a2 μ = some res) : GM shX l D ad ca YX0_setPrice [.inr 61, .inl a1, .inl a2] μ (some (.inl res.1)) res.2 := by
  refine GM.of (L := [some (.inr 61), some (.inl a1), some (.inl a2), none]) (by decide +kernel) rfl (Nat.le_of_ble_eq_true rfl) ?_
  rw [xa_setPrice] at h
  refine G.iload_n (i := 1) dX0_setPrice_0 rfl rfl ?_
  refine G.if_lt 10 dX0_setPrice_1 rfl (fun c => ?_) (fun c => ?_)
  · replace h := (if_pos c).symm.trans h
    exact eb_xa_setPrice_10  h
  · replace h := (if_neg c).symm.trans h
    refine G.iload_n (i := 1) dX0_setPrice_4 rfl rfl ?_
    refine G.bipush dX0_setPrice_5 kb_8 ?_
    refine G.icmp_lt 12 dX0_setPrice_7 rfl (fun c => ?_) (fun c => ?_)
    · replace h := (if_pos c).symm.trans h
      refine G.iload_n (i := 2) dX0_setPrice_12 rfl rfl ?_
      refine G.if_lt 22 dX0_setPrice_13 rfl (fun c => ?_) (fun c => ?_)
      · replace h := (if_pos c).symm.trans h
        exact eb_xa_setPrice_22  h
      · replace h := (if_neg c).symm.trans h
        refine G.iload_n (i := 2) dX0_setPrice_16 rfl rfl ?_
        refine G.bipush dX0_setPrice_17 kb_99 ?_
        refine G.icmp_le 25 dX0_setPrice_19 rfl (fun c => ?_) (fun c => ?_)
        · replace h := (if_pos c).symm.trans h
          refine G.aload_n (i := 0) dX0_setPrice_25 rfl rfl ?_
          refine G.getR ck0 shX_61 0 rfl (by decide) q173 dX0_setPrice_26 ?_
          refine G.getRN ck4 shX_10 6 rfl (by decide) q115 dX0_setPrice_29 ?_
          refine G.iload_n (i := 1) dX0_setPrice_32 rfl rfl ?_
          obtain ⟨v1, hv, h⟩ := bd h
          obtain ⟨hb, rfl⟩ := aget_some hv
          refine G.iald shX_14 hb dX0_setPrice_33 ?_
          refine G.istore_n (i := 3) dX0_setPrice_34 rfl (Nat.le_of_ble_eq_true rfl) ?_
          refine G.iload_n (i := 3) dX0_setPrice_35 rfl rfl ?_
          refine G.iload_n (i := 2) dX0_setPrice_36 rfl rfl ?_
          refine G.icmp_ne 43 dX0_setPrice_37 rfl (fun c => ?_) (fun c => ?_)
          · replace h := (if_neg c).symm.trans h
            refine G.aload_n (i := 0) dX0_setPrice_43 rfl rfl ?_
            refine G.getR ck0 shX_61 0 rfl (by decide) q173 dX0_setPrice_44 ?_
            refine G.getRN ck4 shX_10 6 rfl (by decide) q115 dX0_setPrice_47 ?_
            refine G.iload_n (i := 1) dX0_setPrice_50 rfl rfl ?_
            refine G.iload_n (i := 2) dX0_setPrice_51 rfl rfl ?_
            obtain ⟨μ2, hv, h⟩ := bd h
            obtain ⟨hb, rfl⟩ := aput_some hv
            refine G.iast shX_14 hb dX0_setPrice_52 ?_
            refine G.iload_n (i := 3) dX0_setPrice_53 rfl rfl ?_
            cases h
            exact G.iret dX0_setPrice_54 rfl
          · replace h := (if_pos c).symm.trans h
            refine G.bipush dX0_setPrice_40 kb_m5 ?_
            cases h
            exact G.iret dX0_setPrice_42 rfl
        · replace h := (if_neg c).symm.trans h
          exact eb_xa_setPrice_22  h
    · replace h := (if_neg c).symm.trans h
      exact eb_xa_setPrice_10  h
set_option maxRecDepth 100000 in
theorem e_xx_price {a1 : Int} {a2 : Int} {μ : Mem} {res : (Int × Mem)} (h : xx_price a1 a2 μ = some res) : GM shX l D ad ca YX7_price [.inr 0, .inl a1, .inl a2] μ (some (.inl res.1)) res.2 := by
  refine GM.of (L := [some (.inr 0), some (.inl a1), some (.inl a2)]) (by decide +kernel) rfl (Nat.le_of_ble_eq_true rfl) ?_
  rw [xx_price] at h
  refine G.aload_n (i := 0) dX7_price_0 rfl rfl ?_
  refine G.getR ck7 shX_0 5 rfl (by decide) q241 dX7_price_1 ?_
  refine G.aload_n (i := 0) dX7_price_4 rfl rfl ?_
  refine G.getR ck7 shX_0 2 rfl (by decide) q238 dX7_price_5 ?_
  obtain ⟨μ1, hv, h⟩ := bd h
  refine G.callV (e_xh_prepare hv) cs_X7_price_X2_prepare ck2 shX_24 rfl rfl (Nat.le_of_ble_eq_true rfl) q360 q361 q362 dX7_price_8 ?_
  refine G.aload_n (i := 0) dX7_price_11 rfl rfl ?_
  refine G.aload_n (i := 0) dX7_price_12 rfl rfl ?_
  refine G.getR ck7 shX_0 6 rfl (by decide) q242 dX7_price_13 ?_
  refine G.iload_n (i := 1) dX7_price_16 rfl rfl ?_
  refine G.iload_n (i := 2) dX7_price_17 rfl rfl ?_
  obtain ⟨p2, hv, h⟩ := bd h
  refine G.callV (e_xa_setPrice hv) cs_X7_price_X0_setPrice ck0 shX_61 rfl rfl (Nat.le_of_ble_eq_true rfl) q465 q466 q467 dX7_price_18 ?_
  obtain ⟨p3, hv, h⟩ := bd h
  refine G.callV (e_xx_ended hv) cs_X7_price_X7_ended ck7 shX_0 rfl rfl (Nat.le_of_ble_eq_true rfl) q390 q392 q9 dX7_price_21 ?_
  cases h
  exact G.iret dX7_price_24 rfl
set_option maxRecDepth 100000 in
theorem eb_xx_ranked_32 {s0 : Int} {o1 : Option PV} {μ : Mem} {res : Int} (h : xx_ranked_32 s0 μ = some res) : G shX l D ad ca YX7_ranked 32 [some (.inr 0), o1] [.inl s0] μ (some (.inl res)) μ := by
  rw [xx_ranked_32] at h
  cases h
  exact G.iret dX7_ranked_32 rfl
set_option maxRecDepth 100000 in
theorem e_xx_ranked {a1 : Int} {μ : Mem} {res : Int} (h : xx_ranked a1 μ = some res) : GM shX l D ad ca YX7_ranked [.inr 0, .inl a1] μ (some (.inl res)) μ := by
  refine GM.of (L := [some (.inr 0), some (.inl a1)]) (by decide +kernel) rfl (Nat.le_of_ble_eq_true rfl) ?_
  rw [xx_ranked] at h
  refine G.iload_n (i := 1) dX7_ranked_0 rfl rfl ?_
  refine G.if_ge 7 dX7_ranked_1 rfl (fun c => ?_) (fun c => ?_)
  · replace h := (if_pos c).symm.trans h
    refine G.iload_n (i := 1) dX7_ranked_7 rfl rfl ?_
    refine G.aload_n (i := 0) dX7_ranked_8 rfl rfl ?_
    refine G.getR ck7 shX_0 2 rfl (by decide) q238 dX7_ranked_9 ?_
    refine G.getINN ck4 shX_10 2 rfl (by decide) q104 dX7_ranked_12 ?_
    refine G.icmp_ge 30 dX7_ranked_15 rfl (fun c => ?_) (fun c => ?_)
    · replace h := (if_pos c).symm.trans h
      refine G.bipush dX7_ranked_30 kb_m5 ?_
      exact eb_xx_ranked_32  h
    · replace h := (if_neg c).symm.trans h
      refine G.aload_n (i := 0) dX7_ranked_18 rfl rfl ?_
      refine G.getR ck7 shX_0 2 rfl (by decide) q238 dX7_ranked_19 ?_
      refine G.getRN ck4 shX_10 0 rfl (by decide) q95 dX7_ranked_22 ?_
      refine G.iload_n (i := 1) dX7_ranked_25 rfl rfl ?_
      obtain ⟨v1, hv, h⟩ := bd h
      obtain ⟨hb, rfl⟩ := aget_some hv
      refine G.iald shX_11 hb dX7_ranked_26 ?_
      refine G.goto 32 dX7_ranked_27 rfl ?_
      exact eb_xx_ranked_32  h
  · replace h := (if_neg c).symm.trans h
    refine G.bipush dX7_ranked_4 kb_m2 ?_
    cases h
    exact G.iret dX7_ranked_6 rfl
set_option maxRecDepth 100000 in
theorem e_xa_makeBland {a1 : Int} {μ : Mem} {res : (Int × Mem)} (h : xa_makeBland a1 μ = some res) : GM shX l D ad ca YX0_makeBland [.inr 61, .inl a1] μ (some (.inl res.1)) res.2 := by
  refine GM.of (L := [some (.inr 61), some (.inl a1)]) (by decide +kernel) rfl (Nat.le_of_ble_eq_true rfl) ?_
  rw [xa_makeBland] at h
  refine G.iload_n (i := 1) dX0_makeBland_0 rfl rfl ?_
  obtain ⟨v1, hv, h⟩ := bd h
  refine G.callSN (e_xx_isMix hv) cs_X0_makeBland_X7_isMix rfl (Nat.le_of_ble_eq_true rfl) q373 q374 dX0_makeBland_1 ?_
  refine G.if_ne 10 dX0_makeBland_4 rfl (fun c => ?_) (fun c => ?_)
  · replace h := (if_neg c).symm.trans h
    refine G.aload_n (i := 0) dX0_makeBland_10 rfl rfl ?_
    refine G.getR ck0 shX_61 0 rfl (by decide) q173 dX0_makeBland_11 ?_
    refine G.getINN ck4 shX_10 5 rfl (by decide) q112 dX0_makeBland_14 ?_
    refine G.bipush dX0_makeBland_17 kb_8 ?_
    refine G.icmp_lt 25 dX0_makeBland_19 rfl (fun c => ?_) (fun c => ?_)
    · replace h := (if_pos c).symm.trans h
      refine G.aload_n (i := 0) dX0_makeBland_25 rfl rfl ?_
      refine G.getR ck0 shX_61 0 rfl (by decide) q173 dX0_makeBland_26 ?_
      refine G.getRN ck4 shX_10 4 rfl (by decide) q108 dX0_makeBland_29 ?_
      refine G.aload_n (i := 0) dX0_makeBland_32 rfl rfl ?_
      refine G.getR ck0 shX_61 0 rfl (by decide) q173 dX0_makeBland_33 ?_
      refine G.getINN ck4 shX_10 5 rfl (by decide) q112 dX0_makeBland_36 ?_
      refine G.iload_n (i := 1) dX0_makeBland_39 rfl rfl ?_
      obtain ⟨μ2, hv, h⟩ := bd h
      obtain ⟨hb, rfl⟩ := aput_some hv
      refine G.iast shX_13 hb dX0_makeBland_40 ?_
      refine G.aload_n (i := 0) dX0_makeBland_41 rfl rfl ?_
      refine G.getR ck0 shX_61 0 rfl (by decide) q173 dX0_makeBland_42 ?_
      refine G.dup dX0_makeBland_45 ?_
      refine G.getINN ck4 shX_10 5 rfl (by decide) q112 dX0_makeBland_46 ?_
      refine G.iconst dX0_makeBland_49 ki_1 ?_
      refine G.iadd dX0_makeBland_50 ?_
      replace h := bnd_mp h
      refine G.putIN ck4 shX_10 5 rfl (by decide) q112 rfl rfl rfl dX0_makeBland_51 ?_
      refine G.aload_n (i := 0) dX0_makeBland_54 rfl rfl ?_
      refine G.getR ck0 shX_61 0 rfl (by decide) q173 dX0_makeBland_55 ?_
      refine G.getINN ck4 shX_10 5 rfl (by decide) q112 dX0_makeBland_58 ?_
      cases h
      exact G.iret dX0_makeBland_61 rfl
    · replace h := (if_neg c).symm.trans h
      refine G.bipush dX0_makeBland_22 kb_m3 ?_
      cases h
      exact G.iret dX0_makeBland_24 rfl
  · replace h := (if_pos c).symm.trans h
    refine G.bipush dX0_makeBland_7 kb_m2 ?_
    cases h
    exact G.iret dX0_makeBland_9 rfl
set_option maxRecDepth 100000 in
theorem eb_xx_rule_33 {s1 : Int} {o1 : Option PV} {o2 : Option PV} {μ : Mem} {res : (Int × Mem)} (h : xx_rule_33 s1 μ = some res) : G shX l D ad ca YX7_rule 33 [some (.inr 0), o1, o2] [.inl s1, .inr 0] μ (some (.inl res.1)) res.2 := by
  rw [xx_rule_33] at h
  obtain ⟨p5, hv, h⟩ := bd h
  refine G.callV (e_xx_ended hv) cs_X7_rule_X7_ended ck7 shX_0 rfl rfl (Nat.le_of_ble_eq_true rfl) q390 q392 q9 dX7_rule_33 ?_
  cases h
  exact G.iret dX7_rule_36 rfl
set_option maxRecDepth 100000 in
theorem e_xx_rule {a1 : Int} {μ : Mem} {res : (Int × Mem)} (h : xx_rule a1 μ = some res) : GM shX l D ad ca YX7_rule [.inr 0, .inl a1] μ (some (.inl res.1)) res.2 := by
  refine GM.of (L := [some (.inr 0), some (.inl a1), none]) (by decide +kernel) rfl (Nat.le_of_ble_eq_true rfl) ?_
  rw [xx_rule] at h
  refine G.aload_n (i := 0) dX7_rule_0 rfl rfl ?_
  refine G.getR ck7 shX_0 5 rfl (by decide) q241 dX7_rule_1 ?_
  refine G.aload_n (i := 0) dX7_rule_4 rfl rfl ?_
  refine G.getR ck7 shX_0 2 rfl (by decide) q238 dX7_rule_5 ?_
  obtain ⟨μ1, hv, h⟩ := bd h
  refine G.callV (e_xh_prepare hv) cs_X7_rule_X2_prepare ck2 shX_24 rfl rfl (Nat.le_of_ble_eq_true rfl) q360 q361 q362 dX7_rule_8 ?_
  refine G.aload_n (i := 0) dX7_rule_11 rfl rfl ?_
  refine G.getR ck7 shX_0 6 rfl (by decide) q242 dX7_rule_12 ?_
  refine G.iload_n (i := 1) dX7_rule_15 rfl rfl ?_
  obtain ⟨p2, hv, h⟩ := bd h
  refine G.callV (e_xa_makeBland hv) cs_X7_rule_X0_makeBland ck0 shX_61 rfl rfl (Nat.le_of_ble_eq_true rfl) q457 q458 q459 dX7_rule_16 ?_
  replace h := bnd_mp h
  refine G.istore_n (i := 2) dX7_rule_19 rfl (Nat.le_of_ble_eq_true rfl) ?_
  refine G.aload_n (i := 0) dX7_rule_20 rfl rfl ?_
  refine G.iload_n (i := 2) dX7_rule_21 rfl rfl ?_
  refine G.if_ge 29 dX7_rule_22 rfl (fun c => ?_) (fun c => ?_)
  · replace h := (if_pos c).symm.trans h
    refine G.aload_n (i := 0) dX7_rule_29 rfl rfl ?_
    obtain ⟨p4, hv, h⟩ := bd h
    refine G.callV (e_xx_strength hv) cs_X7_rule_X7_strength ck7 shX_0 rfl rfl (Nat.le_of_ble_eq_true rfl) q268 q270 q0 dX7_rule_30 ?_
    exact eb_xx_rule_33  h
  · replace h := (if_neg c).symm.trans h
    refine G.iload_n (i := 2) dX7_rule_25 rfl rfl ?_
    refine G.goto 33 dX7_rule_26 rfl ?_
    exact eb_xx_rule_33  h
set_option maxRecDepth 100000 in
theorem eb_xx_ruleOf_28 {s0 : Int} {o1 : Option PV} {μ : Mem} {res : Int} (h : xx_ruleOf_28 s0 μ = some res) : G shX l D ad ca YX7_ruleOf 28 [some (.inr 0), o1] [.inl s0] μ (some (.inl res)) μ := by
  rw [xx_ruleOf_28] at h
  cases h
  exact G.iret dX7_ruleOf_28 rfl
set_option maxRecDepth 100000 in
theorem eb_xx_ruleOf_27 {o1 : Option PV} {μ : Mem} {res : Int} (h : xx_ruleOf_27 μ = some res) : G shX l D ad ca YX7_ruleOf 27 [some (.inr 0), o1] [] μ (some (.inl res)) μ := by
  rw [xx_ruleOf_27] at h
  refine G.iconst dX7_ruleOf_27 ki_m1 ?_
  exact eb_xx_ruleOf_28  h
set_option maxRecDepth 100000 in
theorem e_xx_ruleOf {a1 : Int} {μ : Mem} {res : Int} (h : xx_ruleOf a1 μ = some res) : GM shX l D ad ca YX7_ruleOf [.inr 0, .inl a1] μ (some (.inl res)) μ := by
  refine GM.of (L := [some (.inr 0), some (.inl a1)]) (by decide +kernel) rfl (Nat.le_of_ble_eq_true rfl) ?_
  rw [xx_ruleOf] at h
  refine G.iload_n (i := 1) dX7_ruleOf_0 rfl rfl ?_
  refine G.if_lt 27 dX7_ruleOf_1 rfl (fun c => ?_) (fun c => ?_)
  · replace h := (if_pos c).symm.trans h
    exact eb_xx_ruleOf_27  h
  · replace h := (if_neg c).symm.trans h
    refine G.iload_n (i := 1) dX7_ruleOf_4 rfl rfl ?_
    refine G.aload_n (i := 0) dX7_ruleOf_5 rfl rfl ?_
    refine G.getR ck7 shX_0 2 rfl (by decide) q238 dX7_ruleOf_6 ?_
    refine G.getINN ck4 shX_10 5 rfl (by decide) q113 dX7_ruleOf_9 ?_
    refine G.icmp_ge 27 dX7_ruleOf_12 rfl (fun c => ?_) (fun c => ?_)
    · replace h := (if_pos c).symm.trans h
      exact eb_xx_ruleOf_27  h
    · replace h := (if_neg c).symm.trans h
      refine G.aload_n (i := 0) dX7_ruleOf_15 rfl rfl ?_
      refine G.getR ck7 shX_0 2 rfl (by decide) q238 dX7_ruleOf_16 ?_
      refine G.getRN ck4 shX_10 4 rfl (by decide) q109 dX7_ruleOf_19 ?_
      refine G.iload_n (i := 1) dX7_ruleOf_22 rfl rfl ?_
      obtain ⟨v1, hv, h⟩ := bd h
      obtain ⟨hb, rfl⟩ := aget_some hv
      refine G.iald shX_13 hb dX7_ruleOf_23 ?_
      refine G.goto 28 dX7_ruleOf_24 rfl ?_
      exact eb_xx_ruleOf_28  h
set_option maxRecDepth 100000 in
theorem eb_xs_removeFirstWant_47 {x1 : Int} {o2 : Option PV} {μ : Mem} {res : (Int × Mem)} (h : xs_removeFirstWant_47 x1 μ = some res) : G shX l D ad ca YX4_removeFirstWant 47 [some (.inr 10), some (.inl x1), o2] [] μ (some (.inl res.1)) res.2 := by
  rw [xs_removeFirstWant_47] at h
  refine G.iload_n (i := 1) dX4_removeFirstWant_47 rfl rfl ?_
  cases h
  exact G.iret dX4_removeFirstWant_48 rfl
set_option maxRecDepth 100000 in
theorem eb_xs_removeFirstWant_19 : ∀ (n : Nat) (x1 : Int) (x2 : Int) (μ : Mem) (res : (Int × Mem)), xs_removeFirstWant_19 n x1 x2 μ = some res → G shX l D ad ca YX4_removeFirstWant 19 [some (.inr 10), some (.inl x1), some (.inl x2)] [] μ (some (.inl res.1)) res.2 := by
  intro n
  induction n with
  | zero =>
    intro x1 x2 μ res h
    rw [xs_removeFirstWant_19] at h
    cases h
  | succ n ih =>
    intro x1 x2 μ res h
    rw [xs_removeFirstWant_19] at h
    refine G.iload_n (i := 2) dX4_removeFirstWant_19 rfl rfl ?_
    refine G.aload_n (i := 0) dX4_removeFirstWant_20 rfl rfl ?_
    refine G.getI ck4 shX_10 8 rfl (by decide) q120 dX4_removeFirstWant_21 ?_
    refine G.icmp_ge 47 dX4_removeFirstWant_24 rfl (fun c => ?_) (fun c => ?_)
    · replace h := (if_pos c).symm.trans h
      exact eb_xs_removeFirstWant_47  h
    · replace h := (if_neg c).symm.trans h
      refine G.aload_n (i := 0) dX4_removeFirstWant_27 rfl rfl ?_
      refine G.getR ck4 shX_10 7 rfl (by decide) q117 dX4_removeFirstWant_28 ?_
      refine G.iload_n (i := 2) dX4_removeFirstWant_31 rfl rfl ?_
      refine G.aload_n (i := 0) dX4_removeFirstWant_32 rfl rfl ?_
      refine G.getR ck4 shX_10 7 rfl (by decide) q117 dX4_removeFirstWant_33 ?_
      refine G.iload_n (i := 2) dX4_removeFirstWant_36 rfl rfl ?_
      refine G.iconst dX4_removeFirstWant_37 ki_1 ?_
      refine G.iadd dX4_removeFirstWant_38 ?_
      obtain ⟨v2, hv, h⟩ := bd h
      obtain ⟨hb, rfl⟩ := aget_some hv
      refine G.iald shX_15 hb dX4_removeFirstWant_39 ?_
      obtain ⟨μ3, hv, h⟩ := bd h
      obtain ⟨hb, rfl⟩ := aput_some hv
      refine G.iast shX_15 hb dX4_removeFirstWant_40 ?_
      replace h := bnd_mp h
      refine G.iinc dX4_removeFirstWant_41 rfl (Nat.le_of_ble_eq_true rfl) ?_
      refine G.goto 19 dX4_removeFirstWant_44 rfl ?_
      exact ih _ _ _ _ h
set_option maxRecDepth 100000 in
theorem e_xs_removeFirstWant {μ : Mem} {res : (Int × Mem)} (h : xs_removeFirstWant μ = some res) : GM shX l D ad ca YX4_removeFirstWant [.inr 10] μ (some (.inl res.1)) res.2 := by
  refine GM.of (L := [some (.inr 10), none, none]) (by decide +kernel) rfl (Nat.le_of_ble_eq_true rfl) ?_
  rw [xs_removeFirstWant] at h
  refine G.aload_n (i := 0) dX4_removeFirstWant_0 rfl rfl ?_
  refine G.getR ck4 shX_10 7 rfl (by decide) q117 dX4_removeFirstWant_1 ?_
  refine G.iconst dX4_removeFirstWant_4 ki_0 ?_
  refine G.ialdc 0 shX_15 rfl (by decide) dX4_removeFirstWant_5 ?_
  refine G.istore_n (i := 1) dX4_removeFirstWant_6 rfl (Nat.le_of_ble_eq_true rfl) ?_
  refine G.aload_n (i := 0) dX4_removeFirstWant_7 rfl rfl ?_
  refine G.dup dX4_removeFirstWant_8 ?_
  refine G.getI ck4 shX_10 8 rfl (by decide) q120 dX4_removeFirstWant_9 ?_
  refine G.iconst dX4_removeFirstWant_12 ki_1 ?_
  refine G.isub dX4_removeFirstWant_13 ?_
  replace h := bnd_mp h
  refine G.putI ck4 shX_10 8 rfl (by decide) q120 rfl rfl rfl dX4_removeFirstWant_14 ?_
  refine G.iconst dX4_removeFirstWant_17 ki_0 ?_
  refine G.istore_n (i := 2) dX4_removeFirstWant_18 rfl (Nat.le_of_ble_eq_true rfl) ?_
  exact eb_xs_removeFirstWant_19  _ _ _ _ _ h
set_option maxRecDepth 100000 in
theorem eb_xt_firstJarLike_32 {o1 : Option PV} {o3 : Option PV} {μ : Mem} {res : Int} (h : xt_firstJarLike_32 μ = some res) : G shX l D ad ca YX5_firstJarLike 32 [some (.inr 3), o1, some (.inr 10), o3] [] μ (some (.inl res)) μ := by
  rw [xt_firstJarLike_32] at h
  refine G.bipush dX5_firstJarLike_32 kb_m5 ?_
  cases h
  exact G.iret dX5_firstJarLike_34 rfl
set_option maxRecDepth 100000 in
theorem eb_xt_firstJarLike_24 {x3 : Int} {o1 : Option PV} {μ : Mem} {res : Int} (h : xt_firstJarLike_24 x3 μ = some res) : G shX l D ad ca YX5_firstJarLike 24 [some (.inr 3), o1, some (.inr 10), some (.inl x3)] [] μ (some (.inl res)) μ := by
  rw [xt_firstJarLike_24] at h
  refine G.iload_n (i := 3) dX5_firstJarLike_24 rfl rfl ?_
  cases h
  exact G.iret dX5_firstJarLike_25 rfl
set_option maxRecDepth 100000 in
theorem eb_xt_firstJarLike_2 : ∀ (n : Nat) (x1 : Int) (x3 : Int) (μ : Mem) (res : Int), xt_firstJarLike_2 n x1 x3 μ = some res → G shX l D ad ca YX5_firstJarLike 2 [some (.inr 3), some (.inl x1), some (.inr 10), some (.inl x3)] [] μ (some (.inl res)) μ := by
  intro n
  induction n with
  | zero =>
    intro x1 x3 μ res h
    rw [xt_firstJarLike_2] at h
    cases h
  | succ n ih =>
    intro x1 x3 μ res h
    rw [xt_firstJarLike_2] at h
    refine G.iload_n (i := 3) dX5_firstJarLike_2 rfl rfl ?_
    refine G.aload_n (i := 2) dX5_firstJarLike_3 rfl rfl ?_
    refine G.getINN ck4 shX_10 2 rfl (by decide) q103 dX5_firstJarLike_4 ?_
    refine G.icmp_ge 32 dX5_firstJarLike_7 rfl (fun c => ?_) (fun c => ?_)
    · replace h := (if_pos c).symm.trans h
      exact eb_xt_firstJarLike_32  h
    · replace h := (if_neg c).symm.trans h
      refine G.aload_n (i := 0) dX5_firstJarLike_10 rfl rfl ?_
      refine G.aload_n (i := 2) dX5_firstJarLike_11 rfl rfl ?_
      refine G.getRN ck4 shX_10 1 rfl (by decide) q99 dX5_firstJarLike_12 ?_
      refine G.iload_n (i := 3) dX5_firstJarLike_15 rfl rfl ?_
      obtain ⟨v1, hv, h⟩ := bd h
      obtain ⟨hb, rfl⟩ := aget_some hv
      refine G.iald shX_12 hb dX5_firstJarLike_16 ?_
      obtain ⟨v2, hv, h⟩ := bd h
      refine G.callV (e_xt_leastLike hv) cs_X5_firstJarLike_X5_leastLike ck5 shX_3 rfl rfl (Nat.le_of_ble_eq_true rfl) q522 q322 q323 dX5_firstJarLike_17 ?_
      refine G.iload_n (i := 1) dX5_firstJarLike_20 rfl rfl ?_
      refine G.icmp_ne 26 dX5_firstJarLike_21 rfl (fun c => ?_) (fun c => ?_)
      · replace h := (if_neg c).symm.trans h
        replace h := bnd_mp h
        refine G.iinc dX5_firstJarLike_26 rfl (Nat.le_of_ble_eq_true rfl) ?_
        refine G.goto 2 dX5_firstJarLike_29 rfl ?_
        exact ih _ _ _ _ h
      · replace h := (if_pos c).symm.trans h
        exact eb_xt_firstJarLike_24  h
set_option maxRecDepth 100000 in
theorem e_xt_firstJarLike {a1 : Int} {μ : Mem} {res : Int} (h : xt_firstJarLike a1 μ = some res) : GM shX l D ad ca YX5_firstJarLike [.inr 3, .inl a1, .inr 10] μ (some (.inl res)) μ := by
  refine GM.of (L := [some (.inr 3), some (.inl a1), some (.inr 10), none]) (by decide +kernel) rfl (Nat.le_of_ble_eq_true rfl) ?_
  rw [xt_firstJarLike] at h
  refine G.iconst dX5_firstJarLike_0 ki_0 ?_
  refine G.istore_n (i := 3) dX5_firstJarLike_1 rfl (Nat.le_of_ble_eq_true rfl) ?_
  exact eb_xt_firstJarLike_2  _ _ _ _ _ h
set_option maxRecDepth 100000 in
theorem eb_xs_removeJar_54 {o1 : Option PV} {o2 : Option PV} {μ : Mem} {res : Mem} (h : xs_removeJar_54 μ = some res) : G shX l D ad ca YX4_removeJar 54 [some (.inr 10), o1, o2] [] μ none res := by
  rw [xs_removeJar_54] at h
  cases h
  exact G.vret dX4_removeJar_54 rfl
set_option maxRecDepth 100000 in
theorem eb_xs_removeJar_12 : ∀ (n : Nat) (x2 : Int) (o1 : Option PV) (μ : Mem) (res : Mem), xs_removeJar_12 n x2 μ = some res → G shX l D ad ca YX4_removeJar 12 [some (.inr 10), o1, some (.inl x2)] [] μ none res := by
  intro n
  induction n with
  | zero =>
    intro x2 o1 μ res h
    rw [xs_removeJar_12] at h
    cases h
  | succ n ih =>
    intro x2 o1 μ res h
    rw [xs_removeJar_12] at h
    refine G.iload_n (i := 2) dX4_removeJar_12 rfl rfl ?_
    refine G.aload_n (i := 0) dX4_removeJar_13 rfl rfl ?_
    refine G.getI ck4 shX_10 2 rfl (by decide) q101 dX4_removeJar_14 ?_
    refine G.icmp_ge 54 dX4_removeJar_17 rfl (fun c => ?_) (fun c => ?_)
    · replace h := (if_pos c).symm.trans h
      exact eb_xs_removeJar_54  h
    · replace h := (if_neg c).symm.trans h
      refine G.aload_n (i := 0) dX4_removeJar_20 rfl rfl ?_
      refine G.getR ck4 shX_10 0 rfl (by decide) q94 dX4_removeJar_21 ?_
      refine G.iload_n (i := 2) dX4_removeJar_24 rfl rfl ?_
      refine G.aload_n (i := 0) dX4_removeJar_25 rfl rfl ?_
      refine G.getR ck4 shX_10 0 rfl (by decide) q94 dX4_removeJar_26 ?_
      refine G.iload_n (i := 2) dX4_removeJar_29 rfl rfl ?_
      refine G.iconst dX4_removeJar_30 ki_1 ?_
      refine G.iadd dX4_removeJar_31 ?_
      obtain ⟨v2, hv, h⟩ := bd h
      obtain ⟨hb, rfl⟩ := aget_some hv
      refine G.iald shX_11 hb dX4_removeJar_32 ?_
      obtain ⟨μ3, hv, h⟩ := bd h
      obtain ⟨hb, rfl⟩ := aput_some hv
      refine G.iast shX_11 hb dX4_removeJar_33 ?_
      refine G.aload_n (i := 0) dX4_removeJar_34 rfl rfl ?_
      refine G.getR ck4 shX_10 1 rfl (by decide) q96 dX4_removeJar_35 ?_
      refine G.iload_n (i := 2) dX4_removeJar_38 rfl rfl ?_
      refine G.aload_n (i := 0) dX4_removeJar_39 rfl rfl ?_
      refine G.getR ck4 shX_10 1 rfl (by decide) q96 dX4_removeJar_40 ?_
      refine G.iload_n (i := 2) dX4_removeJar_43 rfl rfl ?_
      refine G.iconst dX4_removeJar_44 ki_1 ?_
      refine G.iadd dX4_removeJar_45 ?_
      obtain ⟨v4, hv, h⟩ := bd h
      obtain ⟨hb, rfl⟩ := aget_some hv
      refine G.iald shX_12 hb dX4_removeJar_46 ?_
      obtain ⟨μ5, hv, h⟩ := bd h
      obtain ⟨hb, rfl⟩ := aput_some hv
      refine G.iast shX_12 hb dX4_removeJar_47 ?_
      replace h := bnd_mp h
      refine G.iinc dX4_removeJar_48 rfl (Nat.le_of_ble_eq_true rfl) ?_
      refine G.goto 12 dX4_removeJar_51 rfl ?_
      exact ih _ _ _ _ h
set_option maxRecDepth 100000 in
theorem e_xs_removeJar {a1 : Int} {μ : Mem} {res : Mem} (h : xs_removeJar a1 μ = some res) : GM shX l D ad ca YX4_removeJar [.inr 10, .inl a1] μ none res := by
  refine GM.of (L := [some (.inr 10), some (.inl a1), none]) (by decide +kernel) rfl (Nat.le_of_ble_eq_true rfl) ?_
  rw [xs_removeJar] at h
  refine G.aload_n (i := 0) dX4_removeJar_0 rfl rfl ?_
  refine G.dup dX4_removeJar_1 ?_
  refine G.getI ck4 shX_10 2 rfl (by decide) q101 dX4_removeJar_2 ?_
  refine G.iconst dX4_removeJar_5 ki_1 ?_
  refine G.isub dX4_removeJar_6 ?_
  replace h := bnd_mp h
  refine G.putI ck4 shX_10 2 rfl (by decide) q101 rfl rfl rfl dX4_removeJar_7 ?_
  refine G.iload_n (i := 1) dX4_removeJar_10 rfl rfl ?_
  refine G.istore_n (i := 2) dX4_removeJar_11 rfl (Nat.le_of_ble_eq_true rfl) ?_
  exact eb_xs_removeJar_12  _ _ _ _ _ h
set_option maxRecDepth 100000 in
theorem e_xa_sell {a1 : Int} {μ : Mem} {res : (Int × Mem)} (h : xa_sell a1 μ = some res) : GM shX l D ad ca YX0_sell [.inr 61, .inl a1] μ (some (.inl res.1)) res.2 := by
  refine GM.of (L := [some (.inr 61), some (.inl a1), none, none, none]) (by decide +kernel) rfl (Nat.le_of_ble_eq_true rfl) ?_
  rw [xa_sell] at h
  refine G.aload_n (i := 0) dX0_sell_0 rfl rfl ?_
  refine G.getR ck0 shX_61 0 rfl (by decide) q173 dX0_sell_1 ?_
  refine G.getRN ck4 shX_10 1 rfl (by decide) q98 dX0_sell_4 ?_
  refine G.iload_n (i := 1) dX0_sell_7 rfl rfl ?_
  obtain ⟨v1, hv, h⟩ := bd h
  obtain ⟨hb, rfl⟩ := aget_some hv
  refine G.iald shX_12 hb dX0_sell_8 ?_
  refine G.istore_n (i := 2) dX0_sell_9 rfl (Nat.le_of_ble_eq_true rfl) ?_
  refine G.iload_n (i := 2) dX0_sell_10 rfl rfl ?_
  refine G.aload_n (i := 0) dX0_sell_11 rfl rfl ?_
  refine G.getR ck0 shX_61 0 rfl (by decide) q173 dX0_sell_12 ?_
  refine G.getRN ck4 shX_10 6 rfl (by decide) q115 dX0_sell_15 ?_
  obtain ⟨v2, hv, h⟩ := bd h
  refine G.callSN (e_xx_costOf hv) cs_X0_sell_X7_costOf rfl (Nat.le_of_ble_eq_true rfl) q426 q427 dX0_sell_18 ?_
  refine G.istore_n (i := 3) dX0_sell_21 rfl (Nat.le_of_ble_eq_true rfl) ?_
  refine G.iload_n (i := 3) dX0_sell_22 rfl rfl ?_
  refine G.iload_n (i := 3) dX0_sell_23 rfl rfl ?_
  refine G.iconst dX0_sell_24 ki_2 ?_
  refine G.idiv dX0_sell_25 (by decide) ?_
  refine G.iadd dX0_sell_26 ?_
  replace h := bnd_mp h
  refine G.istore dX0_sell_27 (Nat.le_of_ble_eq_true rfl) ?_
  refine G.aload_n (i := 0) dX0_sell_29 rfl rfl ?_
  refine G.getR ck0 shX_61 0 rfl (by decide) q173 dX0_sell_30 ?_
  refine G.getRN ck4 shX_10 9 rfl (by decide) q124 dX0_sell_33 ?_
  refine G.iconst dX0_sell_36 ki_2 ?_
  refine G.dup2 dX0_sell_37 ?_
  refine G.ialdc 2 shX_16 rfl (by decide) dX0_sell_38 ?_
  refine G.iload_n (i := 2) dX0_sell_39 rfl rfl ?_
  obtain ⟨v4, hv, h⟩ := bd h
  refine G.callSN (e_xx_unitsOf hv) cs_X0_sell_X7_unitsOf rfl (Nat.le_of_ble_eq_true rfl) q385 q330 dX0_sell_40 ?_
  refine G.iadd dX0_sell_43 ?_
  replace h := bnd_mp h
  refine G.iastc 2 shX_16 rfl (by decide) dX0_sell_44 ?_
  refine G.aload_n (i := 0) dX0_sell_45 rfl rfl ?_
  refine G.getR ck0 shX_61 0 rfl (by decide) q173 dX0_sell_46 ?_
  refine G.getRN ck4 shX_10 9 rfl (by decide) q124 dX0_sell_49 ?_
  refine G.iconst dX0_sell_52 ki_5 ?_
  refine G.dup2 dX0_sell_53 ?_
  refine G.ialdc 5 shX_16 rfl (by decide) dX0_sell_54 ?_
  refine G.iload dX0_sell_55 rfl ?_
  refine G.iadd dX0_sell_57 ?_
  replace h := bnd_mp h
  refine G.iastc 5 shX_16 rfl (by decide) dX0_sell_58 ?_
  refine G.aload_n (i := 0) dX0_sell_59 rfl rfl ?_
  refine G.getR ck0 shX_61 0 rfl (by decide) q173 dX0_sell_60 ?_
  refine G.getRN ck4 shX_10 9 rfl (by decide) q124 dX0_sell_63 ?_
  refine G.bipush dX0_sell_66 kb_6 ?_
  refine G.dup2 dX0_sell_68 ?_
  refine G.ialdc 6 shX_16 rfl (by decide) dX0_sell_69 ?_
  refine G.iconst dX0_sell_70 ki_1 ?_
  refine G.iadd dX0_sell_71 ?_
  replace h := bnd_mp h
  refine G.iastc 6 shX_16 rfl (by decide) dX0_sell_72 ?_
  refine G.aload_n (i := 0) dX0_sell_73 rfl rfl ?_
  refine G.getR ck0 shX_61 0 rfl (by decide) q173 dX0_sell_74 ?_
  refine G.iload_n (i := 1) dX0_sell_77 rfl rfl ?_
  obtain ⟨μ8, hv, h⟩ := bd h
  refine G.callV (e_xs_removeJar hv) cs_X0_sell_X4_removeJar ck4 shX_10 rfl rfl (Nat.le_of_ble_eq_true rfl) q437 q438 q439 dX0_sell_78 ?_
  refine G.iload dX0_sell_81 rfl ?_
  cases h
  exact G.iret dX0_sell_83 rfl
set_option maxRecDepth 100000 in
theorem e_xa_serveFirst {μ : Mem} {res : (Int × Mem)} (h : xa_serveFirst μ = some res) : GM shX l D ad ca YX0_serveFirst [.inr 61] μ (some (.inl res.1)) res.2 := by
  refine GM.of (L := [some (.inr 61), none, none]) (by decide +kernel) rfl (Nat.le_of_ble_eq_true rfl) ?_
  rw [xa_serveFirst] at h
  refine G.aload_n (i := 0) dX0_serveFirst_0 rfl rfl ?_
  refine G.getR ck0 shX_61 0 rfl (by decide) q173 dX0_serveFirst_1 ?_
  refine G.getINN ck4 shX_10 8 rfl (by decide) q121 dX0_serveFirst_4 ?_
  refine G.if_ne 13 dX0_serveFirst_7 rfl (fun c => ?_) (fun c => ?_)
  · replace h := (if_neg c).symm.trans h
    refine G.aload_n (i := 0) dX0_serveFirst_13 rfl rfl ?_
    refine G.getR ck0 shX_61 0 rfl (by decide) q173 dX0_serveFirst_14 ?_
    obtain ⟨p1, hv, h⟩ := bd h
    refine G.callV (e_xs_removeFirstWant hv) cs_X0_serveFirst_X4_removeFirstWant ck4 shX_10 rfl rfl (Nat.le_of_ble_eq_true rfl) q512 q513 q514 dX0_serveFirst_17 ?_
    replace h := bnd_mp h
    refine G.istore_n (i := 1) dX0_serveFirst_20 rfl (Nat.le_of_ble_eq_true rfl) ?_
    refine G.aload_n (i := 0) dX0_serveFirst_21 rfl rfl ?_
    refine G.getR ck0 shX_61 2 rfl (by decide) q175 dX0_serveFirst_22 ?_
    refine G.aload_n (i := 0) dX0_serveFirst_25 rfl rfl ?_
    refine G.getR ck0 shX_61 0 rfl (by decide) q173 dX0_serveFirst_26 ?_
    obtain ⟨μ3, hv, h⟩ := bd h
    refine G.callV (e_xt_learn hv) cs_X0_serveFirst_X5_learn ck5 shX_3 rfl rfl (Nat.le_of_ble_eq_true rfl) q516 q273 q274 dX0_serveFirst_29 ?_
    refine G.aload_n (i := 0) dX0_serveFirst_32 rfl rfl ?_
    refine G.getR ck0 shX_61 2 rfl (by decide) q175 dX0_serveFirst_33 ?_
    refine G.aload_n (i := 0) dX0_serveFirst_36 rfl rfl ?_
    refine G.getR ck0 shX_61 2 rfl (by decide) q175 dX0_serveFirst_37 ?_
    refine G.iload_n (i := 1) dX0_serveFirst_40 rfl rfl ?_
    obtain ⟨v4, hv, h⟩ := bd h
    refine G.callV (e_xt_leastLike hv) cs_X0_serveFirst_X5_leastLike ck5 shX_3 rfl rfl (Nat.le_of_ble_eq_true rfl) q517 q322 q323 dX0_serveFirst_41 ?_
    refine G.aload_n (i := 0) dX0_serveFirst_44 rfl rfl ?_
    refine G.getR ck0 shX_61 0 rfl (by decide) q173 dX0_serveFirst_45 ?_
    obtain ⟨v5, hv, h⟩ := bd h
    refine G.callV (e_xt_firstJarLike hv) cs_X0_serveFirst_X5_firstJarLike ck5 shX_3 rfl rfl (Nat.le_of_ble_eq_true rfl) q518 q519 q520 dX0_serveFirst_48 ?_
    refine G.istore_n (i := 2) dX0_serveFirst_51 rfl (Nat.le_of_ble_eq_true rfl) ?_
    refine G.iload_n (i := 2) dX0_serveFirst_52 rfl rfl ?_
    refine G.if_ge 72 dX0_serveFirst_53 rfl (fun c => ?_) (fun c => ?_)
    · replace h := (if_pos c).symm.trans h
      refine G.aload_n (i := 0) dX0_serveFirst_72 rfl rfl ?_
      refine G.iload_n (i := 2) dX0_serveFirst_73 rfl rfl ?_
      obtain ⟨p6, hv, h⟩ := bd h
      refine G.callV (e_xa_sell hv) cs_X0_serveFirst_X0_sell ck0 shX_61 rfl rfl (Nat.le_of_ble_eq_true rfl) q523 q525 q15 dX0_serveFirst_74 ?_
      cases h
      exact G.iret dX0_serveFirst_77 rfl
    · replace h := (if_neg c).symm.trans h
      refine G.aload_n (i := 0) dX0_serveFirst_56 rfl rfl ?_
      refine G.getR ck0 shX_61 0 rfl (by decide) q173 dX0_serveFirst_57 ?_
      refine G.getRN ck4 shX_10 9 rfl (by decide) q124 dX0_serveFirst_60 ?_
      refine G.bipush dX0_serveFirst_63 kb_7 ?_
      refine G.dup2 dX0_serveFirst_65 ?_
      refine G.ialdc 7 shX_16 rfl (by decide) dX0_serveFirst_66 ?_
      refine G.iconst dX0_serveFirst_67 ki_1 ?_
      refine G.iadd dX0_serveFirst_68 ?_
      replace h := bnd_mp h
      refine G.iastc 7 shX_16 rfl (by decide) dX0_serveFirst_69 ?_
      refine G.iconst dX0_serveFirst_70 ki_0 ?_
      cases h
      exact G.iret dX0_serveFirst_71 rfl
  · replace h := (if_pos c).symm.trans h
    refine G.bipush dX0_serveFirst_10 kb_m5 ?_
    cases h
    exact G.iret dX0_serveFirst_12 rfl
set_option maxRecDepth 100000 in
theorem e_xx_serve {μ : Mem} {res : (Int × Mem)} (h : xx_serve μ = some res) : GM shX l D ad ca YX7_serve [.inr 0] μ (some (.inl res.1)) res.2 := by
  refine GM.of (L := [some (.inr 0)]) (by decide +kernel) rfl (Nat.le_of_ble_eq_true rfl) ?_
  rw [xx_serve] at h
  refine G.aload_n (i := 0) dX7_serve_0 rfl rfl ?_
  refine G.getR ck7 shX_0 5 rfl (by decide) q241 dX7_serve_1 ?_
  refine G.aload_n (i := 0) dX7_serve_4 rfl rfl ?_
  refine G.getR ck7 shX_0 2 rfl (by decide) q238 dX7_serve_5 ?_
  obtain ⟨μ1, hv, h⟩ := bd h
  refine G.callV (e_xh_prepare hv) cs_X7_serve_X2_prepare ck2 shX_24 rfl rfl (Nat.le_of_ble_eq_true rfl) q360 q361 q362 dX7_serve_8 ?_
  refine G.aload_n (i := 0) dX7_serve_11 rfl rfl ?_
  refine G.aload_n (i := 0) dX7_serve_12 rfl rfl ?_
  refine G.getR ck7 shX_0 6 rfl (by decide) q242 dX7_serve_13 ?_
  obtain ⟨p2, hv, h⟩ := bd h
  refine G.callV (e_xa_serveFirst hv) cs_X7_serve_X0_serveFirst ck0 shX_61 rfl rfl (Nat.le_of_ble_eq_true rfl) q508 q509 q510 dX7_serve_16 ?_
  obtain ⟨p3, hv, h⟩ := bd h
  refine G.callV (e_xx_ended hv) cs_X7_serve_X7_ended ck7 shX_0 rfl rfl (Nat.le_of_ble_eq_true rfl) q390 q392 q9 dX7_serve_19 ?_
  cases h
  exact G.iret dX7_serve_22 rfl
set_option maxRecDepth 100000 in
theorem eb_xx_tasteOfShelf_43 {x2 : Int} {o1 : Option PV} {o3 : Option PV} {μ : Mem} {res : Int} (h : xx_tasteOfShelf_43 x2 μ = some res) : G shX l D ad ca YX7_tasteOfShelf 43 [some (.inr 0), o1, some (.inl x2), o3] [] μ (some (.inl res)) μ := by
  rw [xx_tasteOfShelf_43] at h
  refine G.iload_n (i := 2) dX7_tasteOfShelf_43 rfl rfl ?_
  cases h
  exact G.iret dX7_tasteOfShelf_44 rfl
set_option maxRecDepth 100000 in
theorem eb_xx_tasteOfShelf_22 : ∀ (n : Nat) (x1 : Int) (x2 : Int) (x3 : Int) (μ : Mem) (res : Int), xx_tasteOfShelf_22 n x1 x2 x3 μ = some res → G shX l D ad ca YX7_tasteOfShelf 22 [some (.inr 0), some (.inl x1), some (.inl x2), some (.inl x3)] [] μ (some (.inl res)) μ := by
  intro n
  induction n with
  | zero =>
    intro x1 x2 x3 μ res h
    rw [xx_tasteOfShelf_22] at h
    cases h
  | succ n ih =>
    intro x1 x2 x3 μ res h
    rw [xx_tasteOfShelf_22] at h
    refine G.iload_n (i := 3) dX7_tasteOfShelf_22 rfl rfl ?_
    refine G.iload_n (i := 1) dX7_tasteOfShelf_23 rfl rfl ?_
    refine G.icmp_ge 43 dX7_tasteOfShelf_24 rfl (fun c => ?_) (fun c => ?_)
    · replace h := (if_pos c).symm.trans h
      exact eb_xx_tasteOfShelf_43  h
    · replace h := (if_neg c).symm.trans h
      refine G.iload_n (i := 2) dX7_tasteOfShelf_27 rfl rfl ?_
      refine G.if_lt 43 dX7_tasteOfShelf_28 rfl (fun c => ?_) (fun c => ?_)
      · replace h := (if_pos c).symm.trans h
        exact eb_xx_tasteOfShelf_43  h
      · replace h := (if_neg c).symm.trans h
        refine G.aload_n (i := 0) dX7_tasteOfShelf_31 rfl rfl ?_
        refine G.iload_n (i := 2) dX7_tasteOfShelf_32 rfl rfl ?_
        obtain ⟨v2, hv, h⟩ := bd h
        refine G.callV (e_xx_nextShelf hv) cs_X7_tasteOfShelf_X7_nextShelf ck7 shX_0 rfl rfl (Nat.le_of_ble_eq_true rfl) q317 q319 q6 dX7_tasteOfShelf_33 ?_
        refine G.istore_n (i := 2) dX7_tasteOfShelf_36 rfl (Nat.le_of_ble_eq_true rfl) ?_
        replace h := bnd_mp h
        refine G.iinc dX7_tasteOfShelf_37 rfl (Nat.le_of_ble_eq_true rfl) ?_
        refine G.goto 22 dX7_tasteOfShelf_40 rfl ?_
        exact ih _ _ _ _ _ h
set_option maxRecDepth 100000 in
theorem e_xx_tasteOfShelf {a1 : Int} {μ : Mem} {res : Int} (h : xx_tasteOfShelf a1 μ = some res) : GM shX l D ad ca YX7_tasteOfShelf [.inr 0, .inl a1] μ (some (.inl res)) μ := by
  refine GM.of (L := [some (.inr 0), some (.inl a1), none, none]) (by decide +kernel) rfl (Nat.le_of_ble_eq_true rfl) ?_
  rw [xx_tasteOfShelf] at h
  refine G.iload_n (i := 1) dX7_tasteOfShelf_0 rfl rfl ?_
  refine G.aload_n (i := 0) dX7_tasteOfShelf_1 rfl rfl ?_
  refine G.getR ck7 shX_0 2 rfl (by decide) q238 dX7_tasteOfShelf_2 ?_
  refine G.getINN ck4 shX_10 2 rfl (by decide) q104 dX7_tasteOfShelf_5 ?_
  refine G.icmp_lt 14 dX7_tasteOfShelf_8 rfl (fun c => ?_) (fun c => ?_)
  · replace h := (if_pos c).symm.trans h
    refine G.aload_n (i := 0) dX7_tasteOfShelf_14 rfl rfl ?_
    refine G.iconst dX7_tasteOfShelf_15 ki_m1 ?_
    obtain ⟨v1, hv, h⟩ := bd h
    refine G.callV (e_xx_nextShelf hv) cs_X7_tasteOfShelf_X7_nextShelf ck7 shX_0 rfl rfl (Nat.le_of_ble_eq_true rfl) q317 q319 q6 dX7_tasteOfShelf_16 ?_
    refine G.istore_n (i := 2) dX7_tasteOfShelf_19 rfl (Nat.le_of_ble_eq_true rfl) ?_
    refine G.iconst dX7_tasteOfShelf_20 ki_0 ?_
    refine G.istore_n (i := 3) dX7_tasteOfShelf_21 rfl (Nat.le_of_ble_eq_true rfl) ?_
    exact eb_xx_tasteOfShelf_22  _ _ _ _ _ _ h
  · replace h := (if_neg c).symm.trans h
    refine G.bipush dX7_tasteOfShelf_11 kb_m5 ?_
    cases h
    exact G.iret dX7_tasteOfShelf_13 rfl
set_option maxRecDepth 100000 in
theorem eb_xx_cheapestJarLike_107 {x2 : Int} {o1 : Option PV} {o3 : Option PV} {o4 : Option PV} {o5 : Option PV} {o6 : Option PV} {μ : Mem} {res : Int} (h : xx_cheapestJarLike_107 x2 μ = some res) : G shX l D ad ca YX7_cheapestJarLike 107 [some (.inr 0), o1, some (.inl x2), o3, o4, o5, o6] [] μ (some (.inl res)) μ := by
  rw [xx_cheapestJarLike_107] at h
  refine G.iload_n (i := 2) dX7_cheapestJarLike_107 rfl rfl ?_
  cases h
  exact G.iret dX7_cheapestJarLike_108 rfl
set_option maxRecDepth 100000 in
theorem eb_xx_cheapestJarLike_101 {K8 : Int → Int → Int → Int → Mem → Option Int} (hK8 : ∀ (x1 : Int) (x2 : Int) (x3 : Int) (x4 : Int) (o5 : Option PV) (o6 : Option PV) (μ : Mem) (res : Int), K8 x1 x2 x3 x4 μ = some res → G shX l D ad ca YX7_cheapestJarLike 8 [some (.inr 0), some (.inl x1), some (.inl x2), some (.inl x3), some (.inl x4), o5, o6] [] μ (some (.inl res)) μ) {x1 : Int} {x2 : Int} {x3 : Int} {x4 : Int} {o5 : Option PV} {o6 : Option PV} {μ : Mem} {res : Int} (h : xx_cheapestJarLike_101 K8 x1 x2 x3 x4 μ = some res) : G shX l D ad ca YX7_cheapestJarLike 101 [some (.inr 0), some (.inl x1), some (.inl x2), some (.inl x3), some (.inl x4), o5, o6] [] μ (some (.inl res)) μ := by
  rw [xx_cheapestJarLike_101] at h
  replace h := bnd_mp h
  refine G.iinc dX7_cheapestJarLike_101 rfl (Nat.le_of_ble_eq_true rfl) ?_
  refine G.goto 8 dX7_cheapestJarLike_104 rfl ?_
  exact hK8 _ _ _ _ _ _ _ _ h
set_option maxRecDepth 100000 in
theorem eb_xx_cheapestJarLike_59 {K8 : Int → Int → Int → Int → Mem → Option Int} (hK8 : ∀ (x1 : Int) (x2 : Int) (x3 : Int) (x4 : Int) (o5 : Option PV) (o6 : Option PV) (μ : Mem) (res : Int), K8 x1 x2 x3 x4 μ = some res → G shX l D ad ca YX7_cheapestJarLike 8 [some (.inr 0), some (.inl x1), some (.inl x2), some (.inl x3), some (.inl x4), o5, o6] [] μ (some (.inl res)) μ) {x1 : Int} {x2 : Int} {x3 : Int} {x4 : Int} {x5 : Int} {s0 : Int} {o6 : Option PV} {μ : Mem} {res : Int} (h : xx_cheapestJarLike_59 K8 x1 x2 x3 x4 x5 s0 μ = some res) : G shX l D ad ca YX7_cheapestJarLike 59 [some (.inr 0), some (.inl x1), some (.inl x2), some (.inl x3), some (.inl x4), some (.inl x5), o6] [.inl s0] μ (some (.inl res)) μ := by
  rw [xx_cheapestJarLike_59] at h
  refine G.istore dX7_cheapestJarLike_59 (Nat.le_of_ble_eq_true rfl) ?_
  refine G.iload dX7_cheapestJarLike_61 rfl ?_
  refine G.if_eq 101 dX7_cheapestJarLike_63 rfl (fun c => ?_) (fun c => ?_)
  · replace h := (if_pos c).symm.trans h
    exact eb_xx_cheapestJarLike_101 hK8 h
  · replace h := (if_neg c).symm.trans h
    refine G.aload_n (i := 0) dX7_cheapestJarLike_66 rfl rfl ?_
    refine G.getR ck7 shX_0 1 rfl (by decide) q237 dX7_cheapestJarLike_67 ?_
    refine G.aload_n (i := 0) dX7_cheapestJarLike_70 rfl rfl ?_
    refine G.getR ck7 shX_0 2 rfl (by decide) q238 dX7_cheapestJarLike_71 ?_
    refine G.getRN ck4 shX_10 1 rfl (by decide) q100 dX7_cheapestJarLike_74 ?_
    refine G.iload dX7_cheapestJarLike_77 rfl ?_
    obtain ⟨v4, hv, h⟩ := bd h
    obtain ⟨hb, rfl⟩ := aget_some hv
    refine G.iald shX_12 hb dX7_cheapestJarLike_79 ?_
    obtain ⟨v5, hv, h⟩ := bd h
    refine G.callV (e_xt_leastLike hv) cs_X7_cheapestJarLike_X5_leastLike ck5 shX_3 rfl rfl (Nat.le_of_ble_eq_true rfl) q321 q322 q323 dX7_cheapestJarLike_80 ?_
    refine G.iload_n (i := 1) dX7_cheapestJarLike_83 rfl rfl ?_
    refine G.icmp_ne 101 dX7_cheapestJarLike_84 rfl (fun c => ?_) (fun c => ?_)
    · replace h := (if_neg c).symm.trans h
      exact eb_xx_cheapestJarLike_101 hK8 h
    · replace h := (if_pos c).symm.trans h
      refine G.aload_n (i := 0) dX7_cheapestJarLike_87 rfl rfl ?_
      refine G.getR ck7 shX_0 2 rfl (by decide) q238 dX7_cheapestJarLike_88 ?_
      refine G.getRN ck4 shX_10 0 rfl (by decide) q95 dX7_cheapestJarLike_91 ?_
      refine G.iload dX7_cheapestJarLike_94 rfl ?_
      obtain ⟨v6, hv, h⟩ := bd h
      obtain ⟨hb, rfl⟩ := aget_some hv
      refine G.iald shX_11 hb dX7_cheapestJarLike_96 ?_
      refine G.istore_n (i := 2) dX7_cheapestJarLike_97 rfl (Nat.le_of_ble_eq_true rfl) ?_
      refine G.iload dX7_cheapestJarLike_98 rfl ?_
      refine G.istore_n (i := 3) dX7_cheapestJarLike_100 rfl (Nat.le_of_ble_eq_true rfl) ?_
      exact eb_xx_cheapestJarLike_101 hK8 h
set_option maxRecDepth 100000 in
theorem eb_xx_cheapestJarLike_54 {K8 : Int → Int → Int → Int → Mem → Option Int} (hK8 : ∀ (x1 : Int) (x2 : Int) (x3 : Int) (x4 : Int) (o5 : Option PV) (o6 : Option PV) (μ : Mem) (res : Int), K8 x1 x2 x3 x4 μ = some res → G shX l D ad ca YX7_cheapestJarLike 8 [some (.inr 0), some (.inl x1), some (.inl x2), some (.inl x3), some (.inl x4), o5, o6] [] μ (some (.inl res)) μ) {x1 : Int} {x2 : Int} {x3 : Int} {x4 : Int} {x5 : Int} {o6 : Option PV} {μ : Mem} {res : Int} (h : xx_cheapestJarLike_54 K8 x1 x2 x3 x4 x5 μ = some res) : G shX l D ad ca YX7_cheapestJarLike 54 [some (.inr 0), some (.inl x1), some (.inl x2), some (.inl x3), some (.inl x4), some (.inl x5), o6] [] μ (some (.inl res)) μ := by
  rw [xx_cheapestJarLike_54] at h
  refine G.iconst dX7_cheapestJarLike_54 ki_1 ?_
  refine G.goto 59 dX7_cheapestJarLike_55 rfl ?_
  exact eb_xx_cheapestJarLike_59 hK8 h
set_option maxRecDepth 100000 in
theorem eb_xx_cheapestJarLike_8 : ∀ (n : Nat) (x1 : Int) (x2 : Int) (x3 : Int) (x4 : Int) (o5 : Option PV) (o6 : Option PV) (μ : Mem) (res : Int), xx_cheapestJarLike_8 n x1 x2 x3 x4 μ = some res → G shX l D ad ca YX7_cheapestJarLike 8 [some (.inr 0), some (.inl x1), some (.inl x2), some (.inl x3), some (.inl x4), o5, o6] [] μ (some (.inl res)) μ := by
  intro n
  induction n with
  | zero =>
    intro x1 x2 x3 x4 o5 o6 μ res h
    rw [xx_cheapestJarLike_8] at h
    cases h
  | succ n ih =>
    intro x1 x2 x3 x4 o5 o6 μ res h
    rw [xx_cheapestJarLike_8] at h
    refine G.iload dX7_cheapestJarLike_8 rfl ?_
    refine G.aload_n (i := 0) dX7_cheapestJarLike_10 rfl rfl ?_
    refine G.getR ck7 shX_0 2 rfl (by decide) q238 dX7_cheapestJarLike_11 ?_
    refine G.getINN ck4 shX_10 2 rfl (by decide) q104 dX7_cheapestJarLike_14 ?_
    refine G.icmp_ge 107 dX7_cheapestJarLike_17 rfl (fun c => ?_) (fun c => ?_)
    · replace h := (if_pos c).symm.trans h
      exact eb_xx_cheapestJarLike_107  h
    · replace h := (if_neg c).symm.trans h
      refine G.aload_n (i := 0) dX7_cheapestJarLike_20 rfl rfl ?_
      refine G.getR ck7 shX_0 2 rfl (by decide) q238 dX7_cheapestJarLike_21 ?_
      refine G.getRN ck4 shX_10 1 rfl (by decide) q100 dX7_cheapestJarLike_24 ?_
      refine G.iload dX7_cheapestJarLike_27 rfl ?_
      obtain ⟨v1, hv, h⟩ := bd h
      obtain ⟨hb, rfl⟩ := aget_some hv
      refine G.iald shX_12 hb dX7_cheapestJarLike_29 ?_
      refine G.aload_n (i := 0) dX7_cheapestJarLike_30 rfl rfl ?_
      refine G.getR ck7 shX_0 2 rfl (by decide) q238 dX7_cheapestJarLike_31 ?_
      refine G.getRN ck4 shX_10 6 rfl (by decide) q116 dX7_cheapestJarLike_34 ?_
      obtain ⟨v2, hv, h⟩ := bd h
      refine G.callS (e_xx_costOf hv) cs_X7_cheapestJarLike_X7_costOf rfl (Nat.le_of_ble_eq_true rfl) q474 q427 dX7_cheapestJarLike_37 ?_
      refine G.istore dX7_cheapestJarLike_40 (Nat.le_of_ble_eq_true rfl) ?_
      refine G.iload_n (i := 2) dX7_cheapestJarLike_42 rfl rfl ?_
      refine G.bipush dX7_cheapestJarLike_43 kb_m5 ?_
      refine G.icmp_eq 54 dX7_cheapestJarLike_45 rfl (fun c => ?_) (fun c => ?_)
      · replace h := (if_pos c).symm.trans h
        exact eb_xx_cheapestJarLike_54 ih h
      · replace h := (if_neg c).symm.trans h
        refine G.iload dX7_cheapestJarLike_48 rfl ?_
        refine G.iload_n (i := 3) dX7_cheapestJarLike_50 rfl rfl ?_
        refine G.icmp_ge 58 dX7_cheapestJarLike_51 rfl (fun c => ?_) (fun c => ?_)
        · replace h := (if_pos c).symm.trans h
          refine G.iconst dX7_cheapestJarLike_58 ki_0 ?_
          exact eb_xx_cheapestJarLike_59 ih h
        · replace h := (if_neg c).symm.trans h
          exact eb_xx_cheapestJarLike_54 ih h
set_option maxRecDepth 100000 in
theorem e_xx_cheapestJarLike {a1 : Int} {μ : Mem} {res : Int} (h : xx_cheapestJarLike a1 μ = some res) : GM shX l D ad ca YX7_cheapestJarLike [.inr 0, .inl a1] μ (some (.inl res)) μ := by
  refine GM.of (L := [some (.inr 0), some (.inl a1), none, none, none, none, none]) (by decide +kernel) rfl (Nat.le_of_ble_eq_true rfl) ?_
  rw [xx_cheapestJarLike] at h
  refine G.bipush dX7_cheapestJarLike_0 kb_m5 ?_
  refine G.istore_n (i := 2) dX7_cheapestJarLike_2 rfl (Nat.le_of_ble_eq_true rfl) ?_
  refine G.iconst dX7_cheapestJarLike_3 ki_0 ?_
  refine G.istore_n (i := 3) dX7_cheapestJarLike_4 rfl (Nat.le_of_ble_eq_true rfl) ?_
  refine G.iconst dX7_cheapestJarLike_5 ki_0 ?_
  refine G.istore dX7_cheapestJarLike_6 (Nat.le_of_ble_eq_true rfl) ?_
  exact eb_xx_cheapestJarLike_8  _ _ _ _ _ _ _ _ _ h
set_option maxRecDepth 100000 in
theorem eb_xx_lowestJarLike_31 {s0 : Int} {o1 : Option PV} {o2 : Option PV} {μ : Mem} {res : Int} (h : xx_lowestJarLike_31 s0 μ = some res) : G shX l D ad ca YX7_lowestJarLike 31 [some (.inr 0), o1, o2] [.inl s0] μ (some (.inl res)) μ := by
  rw [xx_lowestJarLike_31] at h
  cases h
  exact G.iret dX7_lowestJarLike_31 rfl
set_option maxRecDepth 100000 in
theorem e_xx_lowestJarLike {a1 : Int} {μ : Mem} {res : Int} (h : xx_lowestJarLike a1 μ = some res) : GM shX l D ad ca YX7_lowestJarLike [.inr 0, .inl a1] μ (some (.inl res)) μ := by
  refine GM.of (L := [some (.inr 0), some (.inl a1), none]) (by decide +kernel) rfl (Nat.le_of_ble_eq_true rfl) ?_
  rw [xx_lowestJarLike] at h
  refine G.aload_n (i := 0) dX7_lowestJarLike_0 rfl rfl ?_
  refine G.getR ck7 shX_0 1 rfl (by decide) q237 dX7_lowestJarLike_1 ?_
  refine G.iload_n (i := 1) dX7_lowestJarLike_4 rfl rfl ?_
  refine G.aload_n (i := 0) dX7_lowestJarLike_5 rfl rfl ?_
  refine G.getR ck7 shX_0 2 rfl (by decide) q238 dX7_lowestJarLike_6 ?_
  obtain ⟨v1, hv, h⟩ := bd h
  refine G.callV (e_xt_firstJarLike hv) cs_X7_lowestJarLike_X5_firstJarLike ck5 shX_3 rfl rfl (Nat.le_of_ble_eq_true rfl) q552 q519 q520 dX7_lowestJarLike_9 ?_
  refine G.istore_n (i := 2) dX7_lowestJarLike_12 rfl (Nat.le_of_ble_eq_true rfl) ?_
  refine G.iload_n (i := 2) dX7_lowestJarLike_13 rfl rfl ?_
  refine G.if_ge 22 dX7_lowestJarLike_14 rfl (fun c => ?_) (fun c => ?_)
  · replace h := (if_pos c).symm.trans h
    refine G.aload_n (i := 0) dX7_lowestJarLike_22 rfl rfl ?_
    refine G.getR ck7 shX_0 2 rfl (by decide) q238 dX7_lowestJarLike_23 ?_
    refine G.getRN ck4 shX_10 0 rfl (by decide) q95 dX7_lowestJarLike_26 ?_
    refine G.iload_n (i := 2) dX7_lowestJarLike_29 rfl rfl ?_
    obtain ⟨v2, hv, h⟩ := bd h
    obtain ⟨hb, rfl⟩ := aget_some hv
    refine G.iald shX_11 hb dX7_lowestJarLike_30 ?_
    exact eb_xx_lowestJarLike_31  h
  · replace h := (if_neg c).symm.trans h
    refine G.bipush dX7_lowestJarLike_17 kb_m5 ?_
    refine G.goto 31 dX7_lowestJarLike_19 rfl ?_
    exact eb_xx_lowestJarLike_31  h
set_option maxRecDepth 100000 in
theorem eb_xx_shelf_13 {o1 : Option PV} {o2 : Option PV} {o3 : Option PV} {μ : Mem} {res : (Int × Mem)} (h : xx_shelf_13 μ = some res) : G shX l D ad ca YX7_shelf 13 [some (.inr 0), o1, o2, o3] [] μ (some (.inl res.1)) res.2 := by
  rw [xx_shelf_13] at h
  refine G.bipush dX7_shelf_13 kb_m2 ?_
  cases h
  exact G.iret dX7_shelf_15 rfl
set_option maxRecDepth 100000 in
theorem e_xx_shelf {a1 : Int} {a2 : Int} {μ : Mem} {res : (Int × Mem)} (h : xx_shelf a1 a2 μ = some res) : GM shX l D ad ca YX7_shelf [.inr 0, .inl a1, .inl a2] μ (some (.inl res.1)) res.2 := by
  refine GM.of (L := [some (.inr 0), some (.inl a1), some (.inl a2), none]) (by decide +kernel) rfl (Nat.le_of_ble_eq_true rfl) ?_
  rw [xx_shelf] at h
  refine G.iload_n (i := 1) dX7_shelf_0 rfl rfl ?_
  refine G.if_lt 13 dX7_shelf_1 rfl (fun c => ?_) (fun c => ?_)
  · replace h := (if_pos c).symm.trans h
    exact eb_xx_shelf_13  h
  · replace h := (if_neg c).symm.trans h
    refine G.iload_n (i := 2) dX7_shelf_4 rfl rfl ?_
    refine G.if_lt 13 dX7_shelf_5 rfl (fun c => ?_) (fun c => ?_)
    · replace h := (if_pos c).symm.trans h
      exact eb_xx_shelf_13  h
    · replace h := (if_neg c).symm.trans h
      refine G.iload_n (i := 2) dX7_shelf_8 rfl rfl ?_
      refine G.iconst dX7_shelf_9 ki_3 ?_
      refine G.icmp_le 16 dX7_shelf_10 rfl (fun c => ?_) (fun c => ?_)
      · replace h := (if_pos c).symm.trans h
        refine G.aload_n (i := 0) dX7_shelf_16 rfl rfl ?_
        refine G.getR ck7 shX_0 1 rfl (by decide) q237 dX7_shelf_17 ?_
        refine G.aload_n (i := 0) dX7_shelf_20 rfl rfl ?_
        refine G.getR ck7 shX_0 2 rfl (by decide) q238 dX7_shelf_21 ?_
        obtain ⟨μ1, hv, h⟩ := bd h
        refine G.callV (e_xt_learn hv) cs_X7_shelf_X5_learn ck5 shX_3 rfl rfl (Nat.le_of_ble_eq_true rfl) q272 q273 q274 dX7_shelf_24 ?_
        refine G.aload_n (i := 0) dX7_shelf_27 rfl rfl ?_
        refine G.iload_n (i := 1) dX7_shelf_28 rfl rfl ?_
        obtain ⟨v2, hv, h⟩ := bd h
        refine G.callV (e_xx_tasteOfShelf hv) cs_X7_shelf_X7_tasteOfShelf ck7 shX_0 rfl rfl (Nat.le_of_ble_eq_true rfl) q544 q546 q17 dX7_shelf_29 ?_
        refine G.istore_n (i := 3) dX7_shelf_32 rfl (Nat.le_of_ble_eq_true rfl) ?_
        refine G.iload_n (i := 3) dX7_shelf_33 rfl rfl ?_
        refine G.if_ge 40 dX7_shelf_34 rfl (fun c => ?_) (fun c => ?_)
        · replace h := (if_pos c).symm.trans h
          refine G.iload_n (i := 2) dX7_shelf_40 rfl rfl ?_
          refine G.tsCase 0 68 dX7_shelf_41 (by decide) (by decide) rfl rfl (fun c0 => ?_) (fun c0 => ?_)
          · replace h := (if_pos c0).symm.trans h
            refine G.iload_n (i := 3) dX7_shelf_68 rfl rfl ?_
            cases h
            exact G.iret dX7_shelf_69 rfl
          replace h := (if_neg c0).symm.trans h
          refine G.tsCase 1 70 dX7_shelf_41 (by decide) (by decide) rfl rfl (fun c1 => ?_) (fun c1 => ?_)
          · replace h := (if_pos c1).symm.trans h
            refine G.aload_n (i := 0) dX7_shelf_70 rfl rfl ?_
            refine G.iload_n (i := 3) dX7_shelf_71 rfl rfl ?_
            obtain ⟨v3, hv, h⟩ := bd h
            refine G.callV (e_xx_jarsLike hv) cs_X7_shelf_X7_jarsLike ck7 shX_0 rfl rfl (Nat.le_of_ble_eq_true rfl) q536 q538 q16 dX7_shelf_72 ?_
            cases h
            exact G.iret dX7_shelf_75 rfl
          replace h := (if_neg c1).symm.trans h
          refine G.tsCase 2 76 dX7_shelf_41 (by decide) (by decide) rfl rfl (fun c2 => ?_) (fun c2 => ?_)
          · replace h := (if_pos c2).symm.trans h
            refine G.aload_n (i := 0) dX7_shelf_76 rfl rfl ?_
            refine G.iload_n (i := 3) dX7_shelf_77 rfl rfl ?_
            obtain ⟨v4, hv, h⟩ := bd h
            refine G.callV (e_xx_lowestJarLike hv) cs_X7_shelf_X7_lowestJarLike ck7 shX_0 rfl rfl (Nat.le_of_ble_eq_true rfl) q548 q550 q18 dX7_shelf_78 ?_
            cases h
            exact G.iret dX7_shelf_81 rfl
          replace h := (if_neg c2).symm.trans h
          refine G.tsOut 82 dX7_shelf_41 (by omega) rfl ?_
          refine G.aload_n (i := 0) dX7_shelf_82 rfl rfl ?_
          refine G.iload_n (i := 3) dX7_shelf_83 rfl rfl ?_
          obtain ⟨v5, hv, h⟩ := bd h
          refine G.callV (e_xx_cheapestJarLike hv) cs_X7_shelf_X7_cheapestJarLike ck7 shX_0 rfl rfl (Nat.le_of_ble_eq_true rfl) q553 q555 q19 dX7_shelf_84 ?_
          cases h
          exact G.iret dX7_shelf_87 rfl
        · replace h := (if_neg c).symm.trans h
          refine G.bipush dX7_shelf_37 kb_m5 ?_
          cases h
          exact G.iret dX7_shelf_39 rfl
      · replace h := (if_neg c).symm.trans h
        exact eb_xx_shelf_13  h
set_option maxRecDepth 100000 in
theorem e_xa_throwOut {a1 : Int} {μ : Mem} {res : (Int × Mem)} (h : xa_throwOut a1 μ = some res) : GM shX l D ad ca YX0_throwOut [.inr 61, .inl a1] μ (some (.inl res.1)) res.2 := by
  refine GM.of (L := [some (.inr 61), some (.inl a1), none, none]) (by decide +kernel) rfl (Nat.le_of_ble_eq_true rfl) ?_
  rw [xa_throwOut] at h
  refine G.aload_n (i := 0) dX0_throwOut_0 rfl rfl ?_
  refine G.getR ck0 shX_61 0 rfl (by decide) q173 dX0_throwOut_1 ?_
  refine G.iload_n (i := 1) dX0_throwOut_4 rfl rfl ?_
  obtain ⟨v1, hv, h⟩ := bd h
  refine G.callV (e_xs_placeOf hv) cs_X0_throwOut_X4_placeOf ck4 shX_10 rfl rfl (Nat.le_of_ble_eq_true rfl) q409 q410 q411 dX0_throwOut_5 ?_
  refine G.istore_n (i := 2) dX0_throwOut_8 rfl (Nat.le_of_ble_eq_true rfl) ?_
  refine G.iload_n (i := 2) dX0_throwOut_9 rfl rfl ?_
  refine G.if_ge 15 dX0_throwOut_10 rfl (fun c => ?_) (fun c => ?_)
  · replace h := (if_pos c).symm.trans h
    refine G.aload_n (i := 0) dX0_throwOut_15 rfl rfl ?_
    refine G.getR ck0 shX_61 0 rfl (by decide) q173 dX0_throwOut_16 ?_
    refine G.getRN ck4 shX_10 1 rfl (by decide) q98 dX0_throwOut_19 ?_
    refine G.iload_n (i := 2) dX0_throwOut_22 rfl rfl ?_
    obtain ⟨v2, hv, h⟩ := bd h
    obtain ⟨hb, rfl⟩ := aget_some hv
    refine G.iald shX_12 hb dX0_throwOut_23 ?_
    obtain ⟨v3, hv, h⟩ := bd h
    refine G.callSN (e_xx_unitsOf hv) cs_X0_throwOut_X7_unitsOf rfl (Nat.le_of_ble_eq_true rfl) q385 q330 dX0_throwOut_24 ?_
    refine G.istore_n (i := 3) dX0_throwOut_27 rfl (Nat.le_of_ble_eq_true rfl) ?_
    refine G.aload_n (i := 0) dX0_throwOut_28 rfl rfl ?_
    refine G.getR ck0 shX_61 0 rfl (by decide) q173 dX0_throwOut_29 ?_
    refine G.getRN ck4 shX_10 9 rfl (by decide) q124 dX0_throwOut_32 ?_
    refine G.iconst dX0_throwOut_35 ki_3 ?_
    refine G.dup2 dX0_throwOut_36 ?_
    refine G.ialdc 3 shX_16 rfl (by decide) dX0_throwOut_37 ?_
    refine G.iload_n (i := 3) dX0_throwOut_38 rfl rfl ?_
    refine G.iadd dX0_throwOut_39 ?_
    replace h := bnd_mp h
    refine G.iastc 3 shX_16 rfl (by decide) dX0_throwOut_40 ?_
    refine G.aload_n (i := 0) dX0_throwOut_41 rfl rfl ?_
    refine G.getR ck0 shX_61 0 rfl (by decide) q173 dX0_throwOut_42 ?_
    refine G.iload_n (i := 2) dX0_throwOut_45 rfl rfl ?_
    obtain ⟨μ5, hv, h⟩ := bd h
    refine G.callV (e_xs_removeJar hv) cs_X0_throwOut_X4_removeJar ck4 shX_10 rfl rfl (Nat.le_of_ble_eq_true rfl) q437 q438 q439 dX0_throwOut_46 ?_
    refine G.iload_n (i := 3) dX0_throwOut_49 rfl rfl ?_
    cases h
    exact G.iret dX0_throwOut_50 rfl
  · replace h := (if_neg c).symm.trans h
    refine G.iconst dX0_throwOut_13 ki_m1 ?_
    cases h
    exact G.iret dX0_throwOut_14 rfl
set_option maxRecDepth 100000 in
theorem e_xx_throwAway {a1 : Int} {μ : Mem} {res : (Int × Mem)} (h : xx_throwAway a1 μ = some res) : GM shX l D ad ca YX7_throwAway [.inr 0, .inl a1] μ (some (.inl res.1)) res.2 := by
  refine GM.of (L := [some (.inr 0), some (.inl a1)]) (by decide +kernel) rfl (Nat.le_of_ble_eq_true rfl) ?_
  rw [xx_throwAway] at h
  refine G.aload_n (i := 0) dX7_throwAway_0 rfl rfl ?_
  refine G.getR ck7 shX_0 5 rfl (by decide) q241 dX7_throwAway_1 ?_
  refine G.aload_n (i := 0) dX7_throwAway_4 rfl rfl ?_
  refine G.getR ck7 shX_0 2 rfl (by decide) q238 dX7_throwAway_5 ?_
  obtain ⟨μ1, hv, h⟩ := bd h
  refine G.callV (e_xh_prepare hv) cs_X7_throwAway_X2_prepare ck2 shX_24 rfl rfl (Nat.le_of_ble_eq_true rfl) q360 q361 q362 dX7_throwAway_8 ?_
  refine G.aload_n (i := 0) dX7_throwAway_11 rfl rfl ?_
  refine G.aload_n (i := 0) dX7_throwAway_12 rfl rfl ?_
  refine G.getR ck7 shX_0 6 rfl (by decide) q242 dX7_throwAway_13 ?_
  refine G.iload_n (i := 1) dX7_throwAway_16 rfl rfl ?_
  obtain ⟨p2, hv, h⟩ := bd h
  refine G.callV (e_xa_throwOut hv) cs_X7_throwAway_X0_throwOut ck0 shX_61 rfl rfl (Nat.le_of_ble_eq_true rfl) q433 q434 q435 dX7_throwAway_17 ?_
  obtain ⟨p3, hv, h⟩ := bd h
  refine G.callV (e_xx_ended hv) cs_X7_throwAway_X7_ended ck7 shX_0 rfl rfl (Nat.le_of_ble_eq_true rfl) q390 q392 q9 dX7_throwAway_20 ?_
  cases h
  exact G.iret dX7_throwAway_23 rfl
set_option maxRecDepth 100000 in
theorem eb_xx_together_28 {s0 : Int} {o1 : Option PV} {o2 : Option PV} {μ : Mem} {res : Int} (h : xx_together_28 s0 μ = some res) : G shX l D ad ca YX7_together 28 [some (.inr 0), o1, o2] [.inl s0] μ (some (.inl res)) μ := by
  rw [xx_together_28] at h
  cases h
  exact G.iret dX7_together_28 rfl
set_option maxRecDepth 100000 in
theorem eb_xx_together_26 {o1 : Option PV} {o2 : Option PV} {μ : Mem} {res : Int} (h : xx_together_26 μ = some res) : G shX l D ad ca YX7_together 26 [some (.inr 0), o1, o2] [] μ (some (.inl res)) μ := by
  rw [xx_together_26] at h
  refine G.bipush dX7_together_26 kb_m2 ?_
  exact eb_xx_together_28  h
set_option maxRecDepth 100000 in
theorem e_xx_together {a1 : Int} {a2 : Int} {μ : Mem} {res : Int} (h : xx_together a1 a2 μ = some res) : GM shX l D ad ca YX7_together [.inr 0, .inl a1, .inl a2] μ (some (.inl res)) μ := by
  refine GM.of (L := [some (.inr 0), some (.inl a1), some (.inl a2)]) (by decide +kernel) rfl (Nat.le_of_ble_eq_true rfl) ?_
  rw [xx_together] at h
  refine G.iload_n (i := 1) dX7_together_0 rfl rfl ?_
  obtain ⟨v1, hv, h⟩ := bd h
  refine G.callS (e_xx_isMix hv) cs_X7_together_X7_isMix rfl (Nat.le_of_ble_eq_true rfl) q534 q374 dX7_together_1 ?_
  refine G.if_eq 26 dX7_together_4 rfl (fun c => ?_) (fun c => ?_)
  · replace h := (if_pos c).symm.trans h
    exact eb_xx_together_26  h
  · replace h := (if_neg c).symm.trans h
    refine G.iload_n (i := 2) dX7_together_7 rfl rfl ?_
    obtain ⟨v2, hv, h⟩ := bd h
    refine G.callS (e_xx_isMix hv) cs_X7_together_X7_isMix rfl (Nat.le_of_ble_eq_true rfl) q534 q374 dX7_together_8 ?_
    refine G.if_eq 26 dX7_together_11 rfl (fun c => ?_) (fun c => ?_)
    · replace h := (if_pos c).symm.trans h
      exact eb_xx_together_26  h
    · replace h := (if_neg c).symm.trans h
      refine G.aload_n (i := 0) dX7_together_14 rfl rfl ?_
      refine G.getR ck7 shX_0 0 rfl (by decide) q236 dX7_together_15 ?_
      refine G.iload_n (i := 1) dX7_together_18 rfl rfl ?_
      refine G.iload_n (i := 2) dX7_together_19 rfl rfl ?_
      obtain ⟨v3, hv, h⟩ := bd h
      refine G.callV (e_xj_join hv) cs_X7_together_X3_join ck3 shX_1 rfl rfl (Nat.le_of_ble_eq_true rfl) q564 q297 q298 dX7_together_20 ?_
      refine G.goto 28 dX7_together_23 rfl ?_
      exact eb_xx_together_28  h
set_option maxRecDepth 100000 in
theorem e_xh_stepBack {μ : Mem} {res : (Int × Mem)} (h : xh_stepBack μ = some res) : GM shX l D ad ca YX2_stepBack [.inr 24, .inr 10] μ (some (.inl res.1)) res.2 := by
  refine GM.of (L := [some (.inr 24), some (.inr 10)]) (by decide +kernel) rfl (Nat.le_of_ble_eq_true rfl) ?_
  rw [xh_stepBack] at h
  refine G.aload_n (i := 0) dX2_stepBack_0 rfl rfl ?_
  refine G.getI ck2 shX_24 2 rfl (by decide) q158 dX2_stepBack_1 ?_
  refine G.if_ne 10 dX2_stepBack_4 rfl (fun c => ?_) (fun c => ?_)
  · replace h := (if_neg c).symm.trans h
    refine G.aload_n (i := 0) dX2_stepBack_10 rfl rfl ?_
    refine G.aload_n (i := 0) dX2_stepBack_11 rfl rfl ?_
    refine G.getI ck2 shX_24 1 rfl (by decide) q157 dX2_stepBack_12 ?_
    refine G.iconst dX2_stepBack_15 ki_4 ?_
    refine G.iadd dX2_stepBack_16 ?_
    refine G.iconst dX2_stepBack_17 ki_5 ?_
    refine G.irem dX2_stepBack_18 (by decide) ?_
    replace h := bnd_mp h
    refine G.putI ck2 shX_24 1 rfl (by decide) q157 rfl rfl rfl dX2_stepBack_19 ?_
    refine G.aload_n (i := 0) dX2_stepBack_22 rfl rfl ?_
    refine G.dup dX2_stepBack_23 ?_
    refine G.getI ck2 shX_24 2 rfl (by decide) q158 dX2_stepBack_24 ?_
    refine G.iconst dX2_stepBack_27 ki_1 ?_
    refine G.isub dX2_stepBack_28 ?_
    replace h := bnd_mp h
    refine G.putI ck2 shX_24 2 rfl (by decide) q158 rfl rfl rfl dX2_stepBack_29 ?_
    refine G.aload_n (i := 0) dX2_stepBack_32 rfl rfl ?_
    refine G.aload_n (i := 1) dX2_stepBack_33 rfl rfl ?_
    obtain ⟨μ3, hv, h⟩ := bd h
    refine G.callV (e_xh_takeBack hv) cs_X2_stepBack_X2_takeBack ck2 shX_24 rfl rfl (Nat.le_of_ble_eq_true rfl) q632 q633 q634 dX2_stepBack_34 ?_
    refine G.aload_n (i := 0) dX2_stepBack_37 rfl rfl ?_
    refine G.getI ck2 shX_24 2 rfl (by decide) q158 dX2_stepBack_38 ?_
    cases h
    exact G.iret dX2_stepBack_41 rfl
  · replace h := (if_pos c).symm.trans h
    refine G.bipush dX2_stepBack_7 kb_m5 ?_
    cases h
    exact G.iret dX2_stepBack_9 rfl
set_option maxRecDepth 100000 in
theorem e_xx_undo {μ : Mem} {res : (Int × Mem)} (h : xx_undo μ = some res) : GM shX l D ad ca YX7_undo [.inr 0] μ (some (.inl res.1)) res.2 := by
  refine GM.of (L := [some (.inr 0)]) (by decide +kernel) rfl (Nat.le_of_ble_eq_true rfl) ?_
  rw [xx_undo] at h
  refine G.aload_n (i := 0) dX7_undo_0 rfl rfl ?_
  refine G.getR ck7 shX_0 5 rfl (by decide) q241 dX7_undo_1 ?_
  refine G.aload_n (i := 0) dX7_undo_4 rfl rfl ?_
  refine G.getR ck7 shX_0 2 rfl (by decide) q238 dX7_undo_5 ?_
  obtain ⟨p1, hv, h⟩ := bd h
  refine G.callV (e_xh_stepBack hv) cs_X7_undo_X2_stepBack ck2 shX_24 rfl rfl (Nat.le_of_ble_eq_true rfl) q628 q629 q630 dX7_undo_8 ?_
  cases h
  exact G.iret dX7_undo_11 rfl
set_option maxRecDepth 100000 in
theorem eb_xx_waiting_32 {s0 : Int} {o1 : Option PV} {μ : Mem} {res : Int} (h : xx_waiting_32 s0 μ = some res) : G shX l D ad ca YX7_waiting 32 [some (.inr 0), o1] [.inl s0] μ (some (.inl res)) μ := by
  rw [xx_waiting_32] at h
  cases h
  exact G.iret dX7_waiting_32 rfl
set_option maxRecDepth 100000 in
theorem e_xx_waiting {a1 : Int} {μ : Mem} {res : Int} (h : xx_waiting a1 μ = some res) : GM shX l D ad ca YX7_waiting [.inr 0, .inl a1] μ (some (.inl res)) μ := by
  refine GM.of (L := [some (.inr 0), some (.inl a1)]) (by decide +kernel) rfl (Nat.le_of_ble_eq_true rfl) ?_
  rw [xx_waiting] at h
  refine G.iload_n (i := 1) dX7_waiting_0 rfl rfl ?_
  refine G.if_ge 7 dX7_waiting_1 rfl (fun c => ?_) (fun c => ?_)
  · replace h := (if_pos c).symm.trans h
    refine G.iload_n (i := 1) dX7_waiting_7 rfl rfl ?_
    refine G.aload_n (i := 0) dX7_waiting_8 rfl rfl ?_
    refine G.getR ck7 shX_0 2 rfl (by decide) q238 dX7_waiting_9 ?_
    refine G.getINN ck4 shX_10 8 rfl (by decide) q122 dX7_waiting_12 ?_
    refine G.icmp_ge 30 dX7_waiting_15 rfl (fun c => ?_) (fun c => ?_)
    · replace h := (if_pos c).symm.trans h
      refine G.bipush dX7_waiting_30 kb_m5 ?_
      exact eb_xx_waiting_32  h
    · replace h := (if_neg c).symm.trans h
      refine G.aload_n (i := 0) dX7_waiting_18 rfl rfl ?_
      refine G.getR ck7 shX_0 2 rfl (by decide) q238 dX7_waiting_19 ?_
      refine G.getRN ck4 shX_10 7 rfl (by decide) q119 dX7_waiting_22 ?_
      refine G.iload_n (i := 1) dX7_waiting_25 rfl rfl ?_
      obtain ⟨v1, hv, h⟩ := bd h
      obtain ⟨hb, rfl⟩ := aget_some hv
      refine G.iald shX_15 hb dX7_waiting_26 ?_
      refine G.goto 32 dX7_waiting_27 rfl ?_
      exact eb_xx_waiting_32  h
  · replace h := (if_neg c).symm.trans h
    refine G.bipush dX7_waiting_4 kb_m2 ?_
    cases h
    exact G.iret dX7_waiting_6 rfl
set_option maxRecDepth 100000 in
theorem e_xa_welcome {a1 : Int} {μ : Mem} {res : (Int × Mem)} (h : xa_welcome a1 μ = some res) : GM shX l D ad ca YX0_welcome [.inr 61, .inl a1] μ (some (.inl res.1)) res.2 := by
  refine GM.of (L := [some (.inr 61), some (.inl a1)]) (by decide +kernel) rfl (Nat.le_of_ble_eq_true rfl) ?_
  rw [xa_welcome] at h
  refine G.iload_n (i := 1) dX0_welcome_0 rfl rfl ?_
  obtain ⟨v1, hv, h⟩ := bd h
  refine G.callSN (e_xx_isMix hv) cs_X0_welcome_X7_isMix rfl (Nat.le_of_ble_eq_true rfl) q373 q374 dX0_welcome_1 ?_
  refine G.if_ne 10 dX0_welcome_4 rfl (fun c => ?_) (fun c => ?_)
  · replace h := (if_neg c).symm.trans h
    refine G.aload_n (i := 0) dX0_welcome_10 rfl rfl ?_
    refine G.getR ck0 shX_61 0 rfl (by decide) q173 dX0_welcome_11 ?_
    refine G.getINN ck4 shX_10 8 rfl (by decide) q121 dX0_welcome_14 ?_
    refine G.bipush dX0_welcome_17 kb_8 ?_
    refine G.icmp_lt 25 dX0_welcome_19 rfl (fun c => ?_) (fun c => ?_)
    · replace h := (if_pos c).symm.trans h
      refine G.aload_n (i := 0) dX0_welcome_25 rfl rfl ?_
      refine G.getR ck0 shX_61 0 rfl (by decide) q173 dX0_welcome_26 ?_
      refine G.getRN ck4 shX_10 7 rfl (by decide) q118 dX0_welcome_29 ?_
      refine G.aload_n (i := 0) dX0_welcome_32 rfl rfl ?_
      refine G.getR ck0 shX_61 0 rfl (by decide) q173 dX0_welcome_33 ?_
      refine G.getINN ck4 shX_10 8 rfl (by decide) q121 dX0_welcome_36 ?_
      refine G.iload_n (i := 1) dX0_welcome_39 rfl rfl ?_
      obtain ⟨μ2, hv, h⟩ := bd h
      obtain ⟨hb, rfl⟩ := aput_some hv
      refine G.iast shX_15 hb dX0_welcome_40 ?_
      refine G.aload_n (i := 0) dX0_welcome_41 rfl rfl ?_
      refine G.getR ck0 shX_61 0 rfl (by decide) q173 dX0_welcome_42 ?_
      refine G.dup dX0_welcome_45 ?_
      refine G.getINN ck4 shX_10 8 rfl (by decide) q121 dX0_welcome_46 ?_
      refine G.iconst dX0_welcome_49 ki_1 ?_
      refine G.iadd dX0_welcome_50 ?_
      replace h := bnd_mp h
      refine G.putIN ck4 shX_10 8 rfl (by decide) q121 rfl rfl rfl dX0_welcome_51 ?_
      refine G.aload_n (i := 0) dX0_welcome_54 rfl rfl ?_
      refine G.getR ck0 shX_61 0 rfl (by decide) q173 dX0_welcome_55 ?_
      refine G.getINN ck4 shX_10 8 rfl (by decide) q121 dX0_welcome_58 ?_
      cases h
      exact G.iret dX0_welcome_61 rfl
    · replace h := (if_neg c).symm.trans h
      refine G.bipush dX0_welcome_22 kb_m3 ?_
      cases h
      exact G.iret dX0_welcome_24 rfl
  · replace h := (if_pos c).symm.trans h
    refine G.bipush dX0_welcome_7 kb_m2 ?_
    cases h
    exact G.iret dX0_welcome_9 rfl
set_option maxRecDepth 100000 in
theorem e_xx_want {a1 : Int} {μ : Mem} {res : (Int × Mem)} (h : xx_want a1 μ = some res) : GM shX l D ad ca YX7_want [.inr 0, .inl a1] μ (some (.inl res.1)) res.2 := by
  refine GM.of (L := [some (.inr 0), some (.inl a1)]) (by decide +kernel) rfl (Nat.le_of_ble_eq_true rfl) ?_
  rw [xx_want] at h
  refine G.aload_n (i := 0) dX7_want_0 rfl rfl ?_
  refine G.getR ck7 shX_0 5 rfl (by decide) q241 dX7_want_1 ?_
  refine G.aload_n (i := 0) dX7_want_4 rfl rfl ?_
  refine G.getR ck7 shX_0 2 rfl (by decide) q238 dX7_want_5 ?_
  obtain ⟨μ1, hv, h⟩ := bd h
  refine G.callV (e_xh_prepare hv) cs_X7_want_X2_prepare ck2 shX_24 rfl rfl (Nat.le_of_ble_eq_true rfl) q360 q361 q362 dX7_want_8 ?_
  refine G.aload_n (i := 0) dX7_want_11 rfl rfl ?_
  refine G.aload_n (i := 0) dX7_want_12 rfl rfl ?_
  refine G.getR ck7 shX_0 6 rfl (by decide) q242 dX7_want_13 ?_
  refine G.iload_n (i := 1) dX7_want_16 rfl rfl ?_
  obtain ⟨p2, hv, h⟩ := bd h
  refine G.callV (e_xa_welcome hv) cs_X7_want_X0_welcome ck0 shX_61 rfl rfl (Nat.le_of_ble_eq_true rfl) q500 q501 q502 dX7_want_17 ?_
  obtain ⟨p3, hv, h⟩ := bd h
  refine G.callV (e_xx_ended hv) cs_X7_want_X7_ended ck7 shX_0 rfl rfl (Nat.le_of_ble_eq_true rfl) q390 q392 q9 dX7_want_20 ?_
  cases h
  exact G.iret dX7_want_23 rfl
end DD
