section DD
variable {l : Launch} {D : va_G} {ad : Nat → Nat} {ca : Nat → ClassId}
set_option maxRecDepth 100000 in
theorem e_xl_low {a1 : Int} {a2 : Int} {μ : Mem} {res : Int} (h : xl_low a1 a2 = some res) : GM shX l D ad ca YL_low [.inl a1, .inl a2] μ (some (.inl res)) μ := by
  refine GM.of (L := [some (.inl a1), some (.inl a2)]) (by decide +kernel) rfl (Nat.le_of_ble_eq_true rfl) ?_
  rw [xl_low] at h
  refine G.iload_n (i := 0) dL_low_0 rfl rfl ?_
  refine G.ldcI (n := 2147483647) dL_low_1 q342 ki_2147483647 ?_
  refine G.iand dL_low_3 ?_
  refine G.iload_n (i := 1) dL_low_4 rfl rfl ?_
  obtain ⟨hz, h⟩ := ite_nn h
  refine G.irem dL_low_5 hz ?_
  cases h
  exact G.iret dL_low_6 rfl
set_option maxRecDepth 100000 in
theorem eb_xl_jar_23 {s0 : Int} {o1 : Option PV} {o2 : Option PV} {μ : Mem} {res : (Int × Mem)} (h : xl_jar_23 s0 μ = some res) : G shX l D ad ca YL_jar 23 [some (.inr 0), o1, o2] [.inl s0] μ (some (.inl res.1)) res.2 := by
  rw [xl_jar_23] at h
  cases h
  exact G.iret dL_jar_23 rfl
set_option maxRecDepth 100000 in
theorem e_xl_jar {a1 : Int} {μ : Mem} {res : (Int × Mem)} (h : xl_jar a1 μ = some res) : GM shX l D ad ca YL_jar [.inr 0, .inl a1] μ (some (.inl res.1)) res.2 := by
  refine GM.of (L := [some (.inr 0), some (.inl a1), none]) (by decide +kernel) rfl (Nat.le_of_ble_eq_true rfl) ?_
  rw [xl_jar] at h
  refine G.aload_n (i := 0) dL_jar_0 rfl rfl ?_
  refine G.iconst dL_jar_1 ki_0 ?_
  obtain ⟨p1, hv, h⟩ := bd h
  refine G.callV (e_xx_count hv) cs_L_jar_X7_count ck7 shX_0 rfl rfl (Nat.le_of_ble_eq_true rfl) q264 q265 q266 dL_jar_2 ?_
  replace h := bnd_mp h
  refine G.istore_n (i := 2) dL_jar_5 rfl (Nat.le_of_ble_eq_true rfl) ?_
  refine G.iload_n (i := 2) dL_jar_6 rfl rfl ?_
  refine G.if_ne 14 dL_jar_7 rfl (fun c => ?_) (fun c => ?_)
  · replace h := (if_neg c).symm.trans h
    refine G.aload_n (i := 0) dL_jar_14 rfl rfl ?_
    refine G.iload_n (i := 1) dL_jar_15 rfl rfl ?_
    refine G.iload_n (i := 2) dL_jar_16 rfl rfl ?_
    obtain ⟨v3, hv, h⟩ := bd h
    refine G.callS (e_xl_low hv) cs_L_jar_L_low rfl (Nat.le_of_ble_eq_true rfl) q339 q340 dL_jar_17 ?_
    obtain ⟨v4, hv, h⟩ := bd h
    refine G.callV (e_xx_ranked hv) cs_L_jar_X7_ranked ck7 shX_0 rfl rfl (Nat.le_of_ble_eq_true rfl) q346 q347 q348 dL_jar_20 ?_
    exact eb_xl_jar_23  h
  · replace h := (if_pos c).symm.trans h
    refine G.iconst dL_jar_10 ki_m1 ?_
    refine G.goto 23 dL_jar_11 rfl ?_
    exact eb_xl_jar_23  h
set_option maxRecDepth 100000 in
theorem eb_xl_mix_42 {s0 : Int} {o0 : Option PV} {o1 : Option PV} {μ : Mem} {res : Int} (h : xl_mix_42 s0 = some res) : G shX l D ad ca YL_mix 42 [o0, o1] [.inl s0] μ (some (.inl res)) μ := by
  rw [xl_mix_42] at h
  cases h
  exact G.iret dL_mix_42 rfl
set_option maxRecDepth 100000 in
theorem e_xl_mix {a1 : Int} {μ : Mem} {res : Int} (h : xl_mix a1 = some res) : GM shX l D ad ca YL_mix [.inl a1] μ (some (.inl res)) μ := by
  refine GM.of (L := [some (.inl a1), none]) (by decide +kernel) rfl (Nat.le_of_ble_eq_true rfl) ?_
  rw [xl_mix] at h
  refine G.iload_n (i := 0) dL_mix_0 rfl rfl ?_
  refine G.sipush dL_mix_1 ks_6561 ?_
  obtain ⟨v1, hv, h⟩ := bd h
  refine G.callS (e_xl_low hv) cs_L_mix_L_low rfl (Nat.le_of_ble_eq_true rfl) q339 q340 dL_mix_4 ?_
  refine G.istore_n (i := 1) dL_mix_7 rfl (Nat.le_of_ble_eq_true rfl) ?_
  refine G.iload_n (i := 0) dL_mix_8 rfl rfl ?_
  refine G.iconst dL_mix_9 ki_3 ?_
  refine G.ishr dL_mix_10 ?_
  refine G.iconst dL_mix_11 ki_1 ?_
  refine G.iand dL_mix_12 ?_
  refine G.if_ne 20 dL_mix_13 rfl (fun c => ?_) (fun c => ?_)
  · replace h := (if_neg c).symm.trans h
    refine G.iload_n (i := 0) dL_mix_20 rfl rfl ?_
    refine G.iconst dL_mix_21 ki_4 ?_
    refine G.ishr dL_mix_22 ?_
    refine G.iconst dL_mix_23 ki_1 ?_
    refine G.iand dL_mix_24 ?_
    refine G.if_ne 35 dL_mix_25 rfl (fun c => ?_) (fun c => ?_)
    · replace h := (if_neg c).symm.trans h
      refine G.iload_n (i := 1) dL_mix_35 rfl rfl ?_
      refine G.bipush dL_mix_36 kb_9 ?_
      refine G.irem dL_mix_38 (by decide) ?_
      refine G.bipush dL_mix_39 kb_81 ?_
      refine G.imul dL_mix_41 ?_
      exact eb_xl_mix_42  h
    · replace h := (if_pos c).symm.trans h
      refine G.iload_n (i := 1) dL_mix_28 rfl rfl ?_
      refine G.bipush dL_mix_29 kb_81 ?_
      refine G.irem dL_mix_31 (by decide) ?_
      refine G.goto 42 dL_mix_32 rfl ?_
      exact eb_xl_mix_42  h
  · replace h := (if_pos c).symm.trans h
    refine G.iload_n (i := 1) dL_mix_16 rfl rfl ?_
    refine G.goto 42 dL_mix_17 rfl ?_
    exact eb_xl_mix_42  h
set_option maxRecDepth 100000 in
theorem eb_xl_does_120 {s0 : Int} {o1 : Option PV} {o2 : Option PV} {o3 : Option PV} {o4 : Option PV} {μ : Mem} {res : (Int × Mem)} (h : xl_does_120 s0 μ = some res) : G shX l D ad ca YL_does 120 [some (.inr 0), o1, o2, o3, o4] [.inl s0] μ (some (.inl res.1)) res.2 := by
  rw [xl_does_120] at h
  cases h
  exact G.iret dL_does_120 rfl
set_option maxRecDepth 100000 in
theorem eb_xl_does_96 {x1 : Int} {o2 : Option PV} {o3 : Option PV} {o4 : Option PV} {μ : Mem} {res : (Int × Mem)} (h : xl_does_96 x1 μ = some res) : G shX l D ad ca YL_does 96 [some (.inr 0), some (.inl x1), o2, o3, o4] [] μ (some (.inl res.1)) res.2 := by
  rw [xl_does_96] at h
  refine G.aload_n (i := 0) dL_does_96 rfl rfl ?_
  refine G.iconst dL_does_97 ki_0 ?_
  obtain ⟨p6, hv, h⟩ := bd h
  refine G.callV (e_xx_count hv) cs_L_does_X7_count ck7 shX_0 rfl rfl (Nat.le_of_ble_eq_true rfl) q264 q265 q266 dL_does_98 ?_
  refine G.bipush dL_does_101 kb_6 ?_
  refine G.icmp_le 110 dL_does_103 rfl (fun c => ?_) (fun c => ?_)
  · replace h := (if_pos c).symm.trans h
    refine G.aload_n (i := 0) dL_does_110 rfl rfl ?_
    refine G.iload_n (i := 1) dL_does_111 rfl rfl ?_
    refine G.iconst dL_does_112 ki_4 ?_
    refine G.ishr dL_does_113 ?_
    obtain ⟨v7, hv, h⟩ := bd h
    refine G.callS (e_xl_mix hv) cs_L_does_L_mix rfl (Nat.le_of_ble_eq_true rfl) q353 q354 dL_does_114 ?_
    obtain ⟨p8, hv, h⟩ := bd h
    refine G.callV (e_xx_jar hv) cs_L_does_X7_jar ck7 shX_0 rfl rfl (Nat.le_of_ble_eq_true rfl) q356 q357 q358 dL_does_117 ?_
    exact eb_xl_does_120  h
  · replace h := (if_neg c).symm.trans h
    refine G.iconst dL_does_106 ki_0 ?_
    refine G.goto 120 dL_does_107 rfl ?_
    exact eb_xl_does_120  h
set_option maxRecDepth 100000 in
theorem eb_xl_does_155 {s0 : Int} {o1 : Option PV} {o2 : Option PV} {o3 : Option PV} {o4 : Option PV} {μ : Mem} {res : (Int × Mem)} (h : xl_does_155 s0 μ = some res) : G shX l D ad ca YL_does 155 [some (.inr 0), o1, o2, o3, o4] [.inl s0] μ (some (.inl res.1)) res.2 := by
  rw [xl_does_155] at h
  cases h
  exact G.iret dL_does_155 rfl
set_option maxRecDepth 100000 in
theorem eb_xl_does_140 {s0 : Int} {o1 : Option PV} {o2 : Option PV} {o3 : Option PV} {o4 : Option PV} {μ : Mem} {res : (Int × Mem)} (h : xl_does_140 s0 μ = some res) : G shX l D ad ca YL_does 140 [some (.inr 0), o1, o2, o3, o4] [.inl s0] μ (some (.inl res.1)) res.2 := by
  rw [xl_does_140] at h
  refine G.istore dL_does_140 (Nat.le_of_ble_eq_true rfl) ?_
  refine G.iload dL_does_142 rfl ?_
  refine G.bipush dL_does_144 kb_m5 ?_
  refine G.icmp_ne 153 dL_does_146 rfl (fun c => ?_) (fun c => ?_)
  · replace h := (if_neg c).symm.trans h
    refine G.iload dL_does_153 rfl ?_
    exact eb_xl_does_155  h
  · replace h := (if_pos c).symm.trans h
    refine G.iconst dL_does_149 ki_0 ?_
    refine G.goto 155 dL_does_150 rfl ?_
    exact eb_xl_does_155  h
set_option maxRecDepth 100000 in
theorem eb_xl_does_130 {o1 : Option PV} {o2 : Option PV} {o3 : Option PV} {o4 : Option PV} {μ : Mem} {res : (Int × Mem)} (h : xl_does_130 μ = some res) : G shX l D ad ca YL_does 130 [some (.inr 0), o1, o2, o3, o4] [] μ (some (.inl res.1)) res.2 := by
  rw [xl_does_130] at h
  refine G.iconst dL_does_130 ki_0 ?_
  refine G.goto 140 dL_does_131 rfl ?_
  exact eb_xl_does_140  h
set_option maxRecDepth 100000 in
theorem eb_xl_does_121 {x2 : Int} {x3 : Int} {o1 : Option PV} {o4 : Option PV} {μ : Mem} {res : (Int × Mem)} (h : xl_does_121 x2 x3 μ = some res) : G shX l D ad ca YL_does 121 [some (.inr 0), o1, some (.inl x2), some (.inl x3), o4] [] μ (some (.inl res.1)) res.2 := by
  rw [xl_does_121] at h
  refine G.iload_n (i := 2) dL_does_121 rfl rfl ?_
  refine G.if_lt 130 dL_does_122 rfl (fun c => ?_) (fun c => ?_)
  · replace h := (if_pos c).symm.trans h
    exact eb_xl_does_130  h
  · replace h := (if_neg c).symm.trans h
    refine G.iload_n (i := 2) dL_does_125 rfl rfl ?_
    refine G.iload_n (i := 3) dL_does_126 rfl rfl ?_
    refine G.icmp_ne 134 dL_does_127 rfl (fun c => ?_) (fun c => ?_)
    · replace h := (if_neg c).symm.trans h
      refine G.aload_n (i := 0) dL_does_134 rfl rfl ?_
      refine G.iload_n (i := 2) dL_does_135 rfl rfl ?_
      refine G.iload_n (i := 3) dL_does_136 rfl rfl ?_
      obtain ⟨p9, hv, h⟩ := bd h
      refine G.callV (e_xx_pour hv) cs_L_does_X7_pour ck7 shX_0 rfl rfl (Nat.le_of_ble_eq_true rfl) q401 q402 q403 dL_does_137 ?_
      exact eb_xl_does_140  h
    · replace h := (if_pos c).symm.trans h
      exact eb_xl_does_130  h
set_option maxRecDepth 100000 in
theorem eb_xl_does_184 {s0 : Int} {o1 : Option PV} {o2 : Option PV} {o3 : Option PV} {o4 : Option PV} {μ : Mem} {res : (Int × Mem)} (h : xl_does_184 s0 μ = some res) : G shX l D ad ca YL_does 184 [some (.inr 0), o1, o2, o3, o4] [.inl s0] μ (some (.inl res.1)) res.2 := by
  rw [xl_does_184] at h
  cases h
  exact G.iret dL_does_184 rfl
set_option maxRecDepth 100000 in
theorem eb_xl_does_169 {s0 : Int} {o1 : Option PV} {o2 : Option PV} {o3 : Option PV} {o4 : Option PV} {μ : Mem} {res : (Int × Mem)} (h : xl_does_169 s0 μ = some res) : G shX l D ad ca YL_does 169 [some (.inr 0), o1, o2, o3, o4] [.inl s0] μ (some (.inl res.1)) res.2 := by
  rw [xl_does_169] at h
  refine G.istore dL_does_169 (Nat.le_of_ble_eq_true rfl) ?_
  refine G.iload dL_does_171 rfl ?_
  refine G.bipush dL_does_173 kb_m5 ?_
  refine G.icmp_ne 182 dL_does_175 rfl (fun c => ?_) (fun c => ?_)
  · replace h := (if_neg c).symm.trans h
    refine G.iload dL_does_182 rfl ?_
    exact eb_xl_does_184  h
  · replace h := (if_pos c).symm.trans h
    refine G.iconst dL_does_178 ki_0 ?_
    refine G.goto 184 dL_does_179 rfl ?_
    exact eb_xl_does_184  h
set_option maxRecDepth 100000 in
theorem eb_xl_does_207 {s0 : Int} {o1 : Option PV} {o2 : Option PV} {o3 : Option PV} {o4 : Option PV} {μ : Mem} {res : (Int × Mem)} (h : xl_does_207 s0 μ = some res) : G shX l D ad ca YL_does 207 [some (.inr 0), o1, o2, o3, o4] [.inl s0] μ (some (.inl res.1)) res.2 := by
  rw [xl_does_207] at h
  cases h
  exact G.iret dL_does_207 rfl
set_option maxRecDepth 100000 in
theorem eb_xl_does_198 {o1 : Option PV} {o2 : Option PV} {o3 : Option PV} {o4 : Option PV} {μ : Mem} {res : (Int × Mem)} (h : xl_does_198 μ = some res) : G shX l D ad ca YL_does 198 [some (.inr 0), o1, o2, o3, o4] [] μ (some (.inl res.1)) res.2 := by
  rw [xl_does_198] at h
  refine G.iconst dL_does_198 ki_0 ?_
  refine G.goto 207 dL_does_199 rfl ?_
  exact eb_xl_does_207  h
set_option maxRecDepth 100000 in
theorem eb_xl_does_243 {s0 : Int} {o1 : Option PV} {o2 : Option PV} {o3 : Option PV} {o4 : Option PV} {μ : Mem} {res : (Int × Mem)} (h : xl_does_243 s0 μ = some res) : G shX l D ad ca YL_does 243 [some (.inr 0), o1, o2, o3, o4] [.inl s0] μ (some (.inl res.1)) res.2 := by
  rw [xl_does_243] at h
  cases h
  exact G.iret dL_does_243 rfl
set_option maxRecDepth 100000 in
theorem eb_xl_does_208 {x1 : Int} {o2 : Option PV} {o3 : Option PV} {o4 : Option PV} {μ : Mem} {res : (Int × Mem)} (h : xl_does_208 x1 μ = some res) : G shX l D ad ca YL_does 208 [some (.inr 0), some (.inl x1), o2, o3, o4] [] μ (some (.inl res.1)) res.2 := by
  rw [xl_does_208] at h
  refine G.aload_n (i := 0) dL_does_208 rfl rfl ?_
  refine G.iconst dL_does_209 ki_1 ?_
  obtain ⟨p12, hv, h⟩ := bd h
  refine G.callV (e_xx_count hv) cs_L_does_X7_count ck7 shX_0 rfl rfl (Nat.le_of_ble_eq_true rfl) q264 q265 q266 dL_does_210 ?_
  refine G.bipush dL_does_213 kb_8 ?_
  refine G.icmp_ne 233 dL_does_215 rfl (fun c => ?_) (fun c => ?_)
  · replace h := (if_neg c).symm.trans h
    refine G.aload_n (i := 0) dL_does_233 rfl rfl ?_
    refine G.iload_n (i := 1) dL_does_234 rfl rfl ?_
    refine G.iconst dL_does_235 ki_4 ?_
    refine G.ishr dL_does_236 ?_
    obtain ⟨v13, hv, h⟩ := bd h
    refine G.callS (e_xl_mix hv) cs_L_does_L_mix rfl (Nat.le_of_ble_eq_true rfl) q353 q354 dL_does_237 ?_
    obtain ⟨p14, hv, h⟩ := bd h
    refine G.callV (e_xx_rule hv) cs_L_does_X7_rule ck7 shX_0 rfl rfl (Nat.le_of_ble_eq_true rfl) q453 q454 q455 dL_does_240 ?_
    exact eb_xl_does_243  h
  · replace h := (if_pos c).symm.trans h
    refine G.aload_n (i := 0) dL_does_218 rfl rfl ?_
    refine G.iload_n (i := 1) dL_does_219 rfl rfl ?_
    refine G.iconst dL_does_220 ki_4 ?_
    refine G.ishr dL_does_221 ?_
    refine G.bipush dL_does_222 kb_8 ?_
    obtain ⟨v15, hv, h⟩ := bd h
    refine G.callS (e_xl_low hv) cs_L_does_L_low rfl (Nat.le_of_ble_eq_true rfl) q339 q340 dL_does_224 ?_
    obtain ⟨p16, hv, h⟩ := bd h
    refine G.callV (e_xx_drop hv) cs_L_does_X7_drop ck7 shX_0 rfl rfl (Nat.le_of_ble_eq_true rfl) q441 q442 q443 dL_does_227 ?_
    refine G.goto 243 dL_does_230 rfl ?_
    exact eb_xl_does_243  h
set_option maxRecDepth 100000 in
theorem eb_xl_does_271 {s0 : Int} {o1 : Option PV} {o2 : Option PV} {o3 : Option PV} {o4 : Option PV} {μ : Mem} {res : (Int × Mem)} (h : xl_does_271 s0 μ = some res) : G shX l D ad ca YL_does 271 [some (.inr 0), o1, o2, o3, o4] [.inl s0] μ (some (.inl res.1)) res.2 := by
  rw [xl_does_271] at h
  cases h
  exact G.iret dL_does_271 rfl
set_option maxRecDepth 100000 in
theorem eb_xl_does_308 {s0 : Int} {o1 : Option PV} {o2 : Option PV} {o3 : Option PV} {o4 : Option PV} {μ : Mem} {res : (Int × Mem)} (h : xl_does_308 s0 μ = some res) : G shX l D ad ca YL_does 308 [some (.inr 0), o1, o2, o3, o4] [.inl s0] μ (some (.inl res.1)) res.2 := by
  rw [xl_does_308] at h
  cases h
  exact G.iret dL_does_308 rfl
set_option maxRecDepth 100000 in
theorem eb_xl_does_355 {s0 : Int} {o1 : Option PV} {o2 : Option PV} {o3 : Option PV} {o4 : Option PV} {μ : Mem} {res : (Int × Mem)} (h : xl_does_355 s0 μ = some res) : G shX l D ad ca YL_does 355 [some (.inr 0), o1, o2, o3, o4] [.inl s0] μ (some (.inl res.1)) res.2 := by
  rw [xl_does_355] at h
  cases h
  exact G.iret dL_does_355 rfl
set_option maxRecDepth 100000 in
theorem eb_xl_does_352 {s1 : Int} {o1 : Option PV} {o2 : Option PV} {o3 : Option PV} {o4 : Option PV} {μ : Mem} {res : (Int × Mem)} (h : xl_does_352 s1 μ = some res) : G shX l D ad ca YL_does 352 [some (.inr 0), o1, o2, o3, o4] [.inl s1, .inr 0] μ (some (.inl res.1)) res.2 := by
  rw [xl_does_352] at h
  obtain ⟨p27, hv, h⟩ := bd h
  refine G.callV (e_xx_want hv) cs_L_does_X7_want ck7 shX_0 rfl rfl (Nat.le_of_ble_eq_true rfl) q496 q497 q498 dL_does_352 ?_
  exact eb_xl_does_355  h
set_option maxRecDepth 100000 in
theorem eb_xl_does_337 {x1 : Int} {o2 : Option PV} {o3 : Option PV} {o4 : Option PV} {μ : Mem} {res : (Int × Mem)} (h : xl_does_337 x1 μ = some res) : G shX l D ad ca YL_does 337 [some (.inr 0), some (.inl x1), o2, o3, o4] [.inr 0] μ (some (.inl res.1)) res.2 := by
  rw [xl_does_337] at h
  refine G.iload_n (i := 1) dL_does_337 rfl rfl ?_
  refine G.iconst dL_does_338 ki_5 ?_
  refine G.ishr dL_does_339 ?_
  obtain ⟨v26, hv, h⟩ := bd h
  refine G.callS (e_xl_mix hv) cs_L_does_L_mix rfl (Nat.le_of_ble_eq_true rfl) q353 q354 dL_does_340 ?_
  refine G.goto 352 dL_does_343 rfl ?_
  exact eb_xl_does_352  h
set_option maxRecDepth 100000 in
theorem eb_xl_does_309 {x1 : Int} {x2 : Int} {o3 : Option PV} {o4 : Option PV} {μ : Mem} {res : (Int × Mem)} (h : xl_does_309 x1 x2 μ = some res) : G shX l D ad ca YL_does 309 [some (.inr 0), some (.inl x1), some (.inl x2), o3, o4] [] μ (some (.inl res.1)) res.2 := by
  rw [xl_does_309] at h
  refine G.aload_n (i := 0) dL_does_309 rfl rfl ?_
  refine G.bipush dL_does_310 kb_6 ?_
  obtain ⟨p25, hv, h⟩ := bd h
  refine G.callV (e_xx_count hv) cs_L_does_X7_count ck7 shX_0 rfl rfl (Nat.le_of_ble_eq_true rfl) q264 q265 q266 dL_does_312 ?_
  refine G.bipush dL_does_315 kb_8 ?_
  refine G.icmp_ne 324 dL_does_317 rfl (fun c => ?_) (fun c => ?_)
  · replace h := (if_neg c).symm.trans h
    refine G.aload_n (i := 0) dL_does_324 rfl rfl ?_
    refine G.iload_n (i := 2) dL_does_325 rfl rfl ?_
    refine G.if_lt 337 dL_does_326 rfl (fun c => ?_) (fun c => ?_)
    · replace h := (if_pos c).symm.trans h
      exact eb_xl_does_337  h
    · replace h := (if_neg c).symm.trans h
      refine G.iload_n (i := 1) dL_does_329 rfl rfl ?_
      refine G.iconst dL_does_330 ki_4 ?_
      refine G.ishr dL_does_331 ?_
      refine G.iconst dL_does_332 ki_1 ?_
      refine G.iand dL_does_333 ?_
      refine G.if_ne 346 dL_does_334 rfl (fun c => ?_) (fun c => ?_)
      · replace h := (if_neg c).symm.trans h
        refine G.aload_n (i := 0) dL_does_346 rfl rfl ?_
        refine G.iload_n (i := 2) dL_does_347 rfl rfl ?_
        refine G.iconst dL_does_348 ki_0 ?_
        obtain ⟨p28, hv, h⟩ := bd h
        refine G.callV (e_xx_jarOf hv) cs_L_does_X7_jarOf ck7 shX_0 rfl rfl (Nat.le_of_ble_eq_true rfl) q469 q470 q471 dL_does_349 ?_
        exact eb_xl_does_352  h
      · replace h := (if_pos c).symm.trans h
        exact eb_xl_does_337  h
  · replace h := (if_pos c).symm.trans h
    refine G.iconst dL_does_320 ki_0 ?_
    refine G.goto 355 dL_does_321 rfl ?_
    exact eb_xl_does_355  h
set_option maxRecDepth 100000 in
theorem eb_xl_does_375 {s0 : Int} {o1 : Option PV} {o2 : Option PV} {o3 : Option PV} {o4 : Option PV} {μ : Mem} {res : (Int × Mem)} (h : xl_does_375 s0 μ = some res) : G shX l D ad ca YL_does 375 [some (.inr 0), o1, o2, o3, o4] [.inl s0] μ (some (.inl res.1)) res.2 := by
  rw [xl_does_375] at h
  cases h
  exact G.iret dL_does_375 rfl
set_option maxRecDepth 100000 in
theorem e_xl_does {a1 : Int} {μ : Mem} {res : (Int × Mem)} (h : xl_does a1 μ = some res) : GM shX l D ad ca YL_does [.inr 0, .inl a1] μ (some (.inl res.1)) res.2 := by
  refine GM.of (L := [some (.inr 0), some (.inl a1), none, none, none]) (by decide +kernel) rfl (Nat.le_of_ble_eq_true rfl) ?_
  rw [xl_does] at h
  refine G.aload_n (i := 0) dL_does_0 rfl rfl ?_
  refine G.iload_n (i := 1) dL_does_1 rfl rfl ?_
  refine G.iconst dL_does_2 ki_4 ?_
  refine G.ishr dL_does_3 ?_
  obtain ⟨p1, hv, h⟩ := bd h
  refine G.callS (e_xl_jar hv) cs_L_does_L_jar rfl (Nat.le_of_ble_eq_true rfl) q343 q344 dL_does_4 ?_
  replace h := bnd_mp h
  refine G.istore_n (i := 2) dL_does_7 rfl (Nat.le_of_ble_eq_true rfl) ?_
  refine G.aload_n (i := 0) dL_does_8 rfl rfl ?_
  refine G.iload_n (i := 1) dL_does_9 rfl rfl ?_
  refine G.bipush dL_does_10 kb_8 ?_
  refine G.ishr dL_does_12 ?_
  obtain ⟨p3, hv, h⟩ := bd h
  refine G.callS (e_xl_jar hv) cs_L_does_L_jar rfl (Nat.le_of_ble_eq_true rfl) q343 q344 dL_does_13 ?_
  replace h := bnd_mp h
  refine G.istore_n (i := 3) dL_does_16 rfl (Nat.le_of_ble_eq_true rfl) ?_
  refine G.iconst dL_does_17 ki_0 ?_
  refine G.istore dL_does_18 (Nat.le_of_ble_eq_true rfl) ?_
  refine G.iload_n (i := 1) dL_does_20 rfl rfl ?_
  refine G.bipush dL_does_21 kb_15 ?_
  refine G.iand dL_does_23 ?_
  replace h := bnd_mp h
  refine G.tsCase 0 96 dL_does_24 (by decide) (by decide) rfl rfl (fun c0 => ?_) (fun c0 => ?_)
  · replace h := (if_pos c0).symm.trans h
    exact eb_xl_does_96  h
  replace h := (if_neg c0).symm.trans h
  refine G.tsCase 1 96 dL_does_24 (by decide) (by decide) rfl rfl (fun c1 => ?_) (fun c1 => ?_)
  · replace h := (if_pos c1).symm.trans h
    exact eb_xl_does_96  h
  replace h := (if_neg c1).symm.trans h
  refine G.tsCase 2 96 dL_does_24 (by decide) (by decide) rfl rfl (fun c2 => ?_) (fun c2 => ?_)
  · replace h := (if_pos c2).symm.trans h
    exact eb_xl_does_96  h
  replace h := (if_neg c2).symm.trans h
  refine G.tsCase 3 96 dL_does_24 (by decide) (by decide) rfl rfl (fun c3 => ?_) (fun c3 => ?_)
  · replace h := (if_pos c3).symm.trans h
    exact eb_xl_does_96  h
  replace h := (if_neg c3).symm.trans h
  refine G.tsCase 4 121 dL_does_24 (by decide) (by decide) rfl rfl (fun c4 => ?_) (fun c4 => ?_)
  · replace h := (if_pos c4).symm.trans h
    exact eb_xl_does_121  h
  replace h := (if_neg c4).symm.trans h
  refine G.tsCase 5 121 dL_does_24 (by decide) (by decide) rfl rfl (fun c5 => ?_) (fun c5 => ?_)
  · replace h := (if_pos c5).symm.trans h
    exact eb_xl_does_121  h
  replace h := (if_neg c5).symm.trans h
  refine G.tsCase 6 156 dL_does_24 (by decide) (by decide) rfl rfl (fun c6 => ?_) (fun c6 => ?_)
  · replace h := (if_pos c6).symm.trans h
    refine G.iload_n (i := 2) dL_does_156 rfl rfl ?_
    refine G.if_ge 164 dL_does_157 rfl (fun c => ?_) (fun c => ?_)
    · replace h := (if_pos c).symm.trans h
      refine G.aload_n (i := 0) dL_does_164 rfl rfl ?_
      refine G.iload_n (i := 2) dL_does_165 rfl rfl ?_
      obtain ⟨p10, hv, h⟩ := bd h
      refine G.callV (e_xx_more hv) cs_L_does_X7_more ck7 shX_0 rfl rfl (Nat.le_of_ble_eq_true rfl) q418 q419 q420 dL_does_166 ?_
      exact eb_xl_does_169  h
    · replace h := (if_neg c).symm.trans h
      refine G.iconst dL_does_160 ki_0 ?_
      refine G.goto 169 dL_does_161 rfl ?_
      exact eb_xl_does_169  h
  replace h := (if_neg c6).symm.trans h
  refine G.tsCase 7 185 dL_does_24 (by decide) (by decide) rfl rfl (fun c7 => ?_) (fun c7 => ?_)
  · replace h := (if_pos c7).symm.trans h
    refine G.iload_n (i := 2) dL_does_185 rfl rfl ?_
    refine G.if_lt 198 dL_does_186 rfl (fun c => ?_) (fun c => ?_)
    · replace h := (if_pos c).symm.trans h
      exact eb_xl_does_198  h
    · replace h := (if_neg c).symm.trans h
      refine G.iload_n (i := 1) dL_does_189 rfl rfl ?_
      refine G.bipush dL_does_190 kb_12 ?_
      refine G.ishr dL_does_192 ?_
      refine G.iconst dL_does_193 ki_1 ?_
      refine G.iand dL_does_194 ?_
      refine G.if_ne 202 dL_does_195 rfl (fun c => ?_) (fun c => ?_)
      · replace h := (if_neg c).symm.trans h
        refine G.aload_n (i := 0) dL_does_202 rfl rfl ?_
        refine G.iload_n (i := 2) dL_does_203 rfl rfl ?_
        obtain ⟨p11, hv, h⟩ := bd h
        refine G.callV (e_xx_throwAway hv) cs_L_does_X7_throwAway ck7 shX_0 rfl rfl (Nat.le_of_ble_eq_true rfl) q429 q430 q431 dL_does_204 ?_
        exact eb_xl_does_207  h
      · replace h := (if_pos c).symm.trans h
        exact eb_xl_does_198  h
  replace h := (if_neg c7).symm.trans h
  refine G.tsCase 8 208 dL_does_24 (by decide) (by decide) rfl rfl (fun c8 => ?_) (fun c8 => ?_)
  · replace h := (if_pos c8).symm.trans h
    exact eb_xl_does_208  h
  replace h := (if_neg c8).symm.trans h
  refine G.tsCase 9 208 dL_does_24 (by decide) (by decide) rfl rfl (fun c9 => ?_) (fun c9 => ?_)
  · replace h := (if_pos c9).symm.trans h
    exact eb_xl_does_208  h
  replace h := (if_neg c9).symm.trans h
  refine G.tsCase 10 244 dL_does_24 (by decide) (by decide) rfl rfl (fun c10 => ?_) (fun c10 => ?_)
  · replace h := (if_pos c10).symm.trans h
    refine G.aload_n (i := 0) dL_does_244 rfl rfl ?_
    refine G.iconst dL_does_245 ki_1 ?_
    obtain ⟨p17, hv, h⟩ := bd h
    refine G.callV (e_xx_count hv) cs_L_does_X7_count ck7 shX_0 rfl rfl (Nat.le_of_ble_eq_true rfl) q264 q265 q266 dL_does_246 ?_
    refine G.if_ne 256 dL_does_249 rfl (fun c => ?_) (fun c => ?_)
    · replace h := (if_neg c).symm.trans h
      refine G.aload_n (i := 0) dL_does_256 rfl rfl ?_
      refine G.iload_n (i := 1) dL_does_257 rfl rfl ?_
      refine G.iconst dL_does_258 ki_4 ?_
      refine G.ishr dL_does_259 ?_
      refine G.aload_n (i := 0) dL_does_260 rfl rfl ?_
      refine G.iconst dL_does_261 ki_1 ?_
      obtain ⟨p18, hv, h⟩ := bd h
      refine G.callV (e_xx_count hv) cs_L_does_X7_count ck7 shX_0 rfl rfl (Nat.le_of_ble_eq_true rfl) q264 q265 q266 dL_does_262 ?_
      obtain ⟨v19, hv, h⟩ := bd h
      refine G.callS (e_xl_low hv) cs_L_does_L_low rfl (Nat.le_of_ble_eq_true rfl) q339 q340 dL_does_265 ?_
      obtain ⟨p20, hv, h⟩ := bd h
      refine G.callV (e_xx_drop hv) cs_L_does_X7_drop ck7 shX_0 rfl rfl (Nat.le_of_ble_eq_true rfl) q441 q442 q443 dL_does_268 ?_
      exact eb_xl_does_271  h
    · replace h := (if_pos c).symm.trans h
      refine G.iconst dL_does_252 ki_0 ?_
      refine G.goto 271 dL_does_253 rfl ?_
      exact eb_xl_does_271  h
  replace h := (if_neg c10).symm.trans h
  refine G.tsCase 11 272 dL_does_24 (by decide) (by decide) rfl rfl (fun c11 => ?_) (fun c11 => ?_)
  · replace h := (if_pos c11).symm.trans h
    refine G.aload_n (i := 0) dL_does_272 rfl rfl ?_
    refine G.iload_n (i := 1) dL_does_273 rfl rfl ?_
    refine G.iconst dL_does_274 ki_4 ?_
    refine G.ishr dL_does_275 ?_
    refine G.bipush dL_does_276 kb_8 ?_
    obtain ⟨v21, hv, h⟩ := bd h
    refine G.callS (e_xl_low hv) cs_L_does_L_low rfl (Nat.le_of_ble_eq_true rfl) q339 q340 dL_does_278 ?_
    refine G.iload_n (i := 1) dL_does_281 rfl rfl ?_
    refine G.bipush dL_does_282 kb_7 ?_
    refine G.ishr dL_does_284 ?_
    refine G.bipush dL_does_285 kb_100 ?_
    obtain ⟨v22, hv, h⟩ := bd h
    refine G.callS (e_xl_low hv) cs_L_does_L_low rfl (Nat.le_of_ble_eq_true rfl) q339 q340 dL_does_287 ?_
    obtain ⟨p23, hv, h⟩ := bd h
    refine G.callV (e_xx_price hv) cs_L_does_X7_price ck7 shX_0 rfl rfl (Nat.le_of_ble_eq_true rfl) q461 q462 q463 dL_does_290 ?_
    replace h := bnd_mp h
    refine G.istore dL_does_293 (Nat.le_of_ble_eq_true rfl) ?_
    refine G.iload dL_does_295 rfl ?_
    refine G.bipush dL_does_297 kb_m5 ?_
    refine G.icmp_ne 306 dL_does_299 rfl (fun c => ?_) (fun c => ?_)
    · replace h := (if_neg c).symm.trans h
      refine G.iload dL_does_306 rfl ?_
      exact eb_xl_does_308  h
    · replace h := (if_pos c).symm.trans h
      refine G.iconst dL_does_302 ki_0 ?_
      refine G.goto 308 dL_does_303 rfl ?_
      exact eb_xl_does_308  h
  replace h := (if_neg c11).symm.trans h
  refine G.tsCase 12 309 dL_does_24 (by decide) (by decide) rfl rfl (fun c12 => ?_) (fun c12 => ?_)
  · replace h := (if_pos c12).symm.trans h
    exact eb_xl_does_309  h
  replace h := (if_neg c12).symm.trans h
  refine G.tsCase 13 309 dL_does_24 (by decide) (by decide) rfl rfl (fun c13 => ?_) (fun c13 => ?_)
  · replace h := (if_pos c13).symm.trans h
    exact eb_xl_does_309  h
  replace h := (if_neg c13).symm.trans h
  refine G.tsOut 356 dL_does_24 (by omega) rfl ?_
  refine G.aload_n (i := 0) dL_does_356 rfl rfl ?_
  obtain ⟨p29, hv, h⟩ := bd h
  refine G.callV (e_xx_serve hv) cs_L_does_X7_serve ck7 shX_0 rfl rfl (Nat.le_of_ble_eq_true rfl) q504 q505 q506 dL_does_357 ?_
  replace h := bnd_mp h
  refine G.istore dL_does_360 (Nat.le_of_ble_eq_true rfl) ?_
  refine G.iload dL_does_362 rfl ?_
  refine G.bipush dL_does_364 kb_m5 ?_
  refine G.icmp_ne 373 dL_does_366 rfl (fun c => ?_) (fun c => ?_)
  · replace h := (if_neg c).symm.trans h
    refine G.iload dL_does_373 rfl ?_
    exact eb_xl_does_375  h
  · replace h := (if_pos c).symm.trans h
    refine G.iconst dL_does_369 ki_0 ?_
    refine G.goto 375 dL_does_370 rfl ?_
    exact eb_xl_does_375  h
set_option maxRecDepth 100000 in
theorem eb_xl_areAccountsSo_525 {s0 : Int} {o1 : Option PV} {o2 : Option PV} {o3 : Option PV} {o4 : Option PV} {o5 : Option PV} {o6 : Option PV} {o7 : Option PV} {o8 : Option PV} {μ : Mem} {res : (Int × Mem)} (h : xl_areAccountsSo_525 s0 μ = some res) : G shX l D ad ca YL_areAccountsSo 525 [some (.inr 0), o1, o2, o3, o4, o5, o6, o7, o8] [.inl s0] μ (some (.inl res.1)) res.2 := by
  rw [xl_areAccountsSo_525] at h
  obtain ⟨hz, h⟩ := ite_yn h
  cases h
  exact G.zret .boolean dL_areAccountsSo_525 rfl (nar_z hz)
set_option maxRecDepth 100000 in
theorem eb_xl_areAccountsSo_524 {o1 : Option PV} {o2 : Option PV} {o3 : Option PV} {o4 : Option PV} {o5 : Option PV} {o6 : Option PV} {o7 : Option PV} {o8 : Option PV} {μ : Mem} {res : (Int × Mem)} (h : xl_areAccountsSo_524 μ = some res) : G shX l D ad ca YL_areAccountsSo 524 [some (.inr 0), o1, o2, o3, o4, o5, o6, o7, o8] [] μ (some (.inl res.1)) res.2 := by
  rw [xl_areAccountsSo_524] at h
  refine G.iconst dL_areAccountsSo_524 ki_0 ?_
  exact eb_xl_areAccountsSo_525  h
set_option maxRecDepth 100000 in
theorem eb_xl_areAccountsSo_375 {x1 : Int} {x2 : Int} {x3 : Int} {x5 : Int} {x7 : Int} {o4 : Option PV} {o6 : Option PV} {o8 : Option PV} {μ : Mem} {res : (Int × Mem)} (h : xl_areAccountsSo_375 x1 x2 x3 x5 x7 μ = some res) : G shX l D ad ca YL_areAccountsSo 375 [some (.inr 0), some (.inl x1), some (.inl x2), some (.inl x3), o4, some (.inl x5), o6, some (.inl x7), o8] [] μ (some (.inl res.1)) res.2 := by
  rw [xl_areAccountsSo_375] at h
  refine G.iload dL_areAccountsSo_375 rfl ?_
  refine G.if_eq 524 dL_areAccountsSo_377 rfl (fun c => ?_) (fun c => ?_)
  · replace h := (if_pos c).symm.trans h
    exact eb_xl_areAccountsSo_524  h
  · replace h := (if_neg c).symm.trans h
    refine G.iload_n (i := 3) dL_areAccountsSo_380 rfl rfl ?_
    refine G.aload_n (i := 0) dL_areAccountsSo_381 rfl rfl ?_
    refine G.iconst dL_areAccountsSo_382 ki_0 ?_
    obtain ⟨p4, hv, h⟩ := bd h
    refine G.callV (e_xx_count hv) cs_L_areAccountsSo_X7_count ck7 shX_0 rfl rfl (Nat.le_of_ble_eq_true rfl) q264 q265 q266 dL_areAccountsSo_383 ?_
    refine G.icmp_ne 524 dL_areAccountsSo_386 rfl (fun c => ?_) (fun c => ?_)
    · replace h := (if_neg c).symm.trans h
      exact eb_xl_areAccountsSo_524  h
    · replace h := (if_pos c).symm.trans h
      refine G.iload_n (i := 2) dL_areAccountsSo_389 rfl rfl ?_
      refine G.aload_n (i := 0) dL_areAccountsSo_390 rfl rfl ?_
      refine G.bipush dL_areAccountsSo_391 kb_11 ?_
      obtain ⟨p5, hv, h⟩ := bd h
      refine G.callV (e_xx_count hv) cs_L_areAccountsSo_X7_count ck7 shX_0 rfl rfl (Nat.le_of_ble_eq_true rfl) q264 q265 q266 dL_areAccountsSo_393 ?_
      refine G.icmp_ne 524 dL_areAccountsSo_396 rfl (fun c => ?_) (fun c => ?_)
      · replace h := (if_neg c).symm.trans h
        exact eb_xl_areAccountsSo_524  h
      · replace h := (if_pos c).symm.trans h
        refine G.aload_n (i := 0) dL_areAccountsSo_399 rfl rfl ?_
        refine G.bipush dL_areAccountsSo_400 kb_7 ?_
        obtain ⟨p6, hv, h⟩ := bd h
        refine G.callV (e_xx_count hv) cs_L_areAccountsSo_X7_count ck7 shX_0 rfl rfl (Nat.le_of_ble_eq_true rfl) q264 q265 q266 dL_areAccountsSo_402 ?_
        refine G.aload_n (i := 0) dL_areAccountsSo_405 rfl rfl ?_
        refine G.bipush dL_areAccountsSo_406 kb_8 ?_
        obtain ⟨p7, hv, h⟩ := bd h
        refine G.callV (e_xx_count hv) cs_L_areAccountsSo_X7_count ck7 shX_0 rfl rfl (Nat.le_of_ble_eq_true rfl) q264 q265 q266 dL_areAccountsSo_408 ?_
        refine G.aload_n (i := 0) dL_areAccountsSo_411 rfl rfl ?_
        refine G.bipush dL_areAccountsSo_412 kb_9 ?_
        obtain ⟨p8, hv, h⟩ := bd h
        refine G.callV (e_xx_count hv) cs_L_areAccountsSo_X7_count ck7 shX_0 rfl rfl (Nat.le_of_ble_eq_true rfl) q264 q265 q266 dL_areAccountsSo_414 ?_
        refine G.iadd dL_areAccountsSo_417 ?_
        refine G.aload_n (i := 0) dL_areAccountsSo_418 rfl rfl ?_
        refine G.bipush dL_areAccountsSo_419 kb_10 ?_
        obtain ⟨p9, hv, h⟩ := bd h
        refine G.callV (e_xx_count hv) cs_L_areAccountsSo_X7_count ck7 shX_0 rfl rfl (Nat.le_of_ble_eq_true rfl) q264 q265 q266 dL_areAccountsSo_421 ?_
        refine G.iadd dL_areAccountsSo_424 ?_
        refine G.iload_n (i := 2) dL_areAccountsSo_425 rfl rfl ?_
        refine G.iadd dL_areAccountsSo_426 ?_
        refine G.icmp_ne 524 dL_areAccountsSo_427 rfl (fun c => ?_) (fun c => ?_)
        · replace h := (if_neg c).symm.trans h
          exact eb_xl_areAccountsSo_524  h
        · replace h := (if_pos c).symm.trans h
          refine G.aload_n (i := 0) dL_areAccountsSo_430 rfl rfl ?_
          refine G.bipush dL_areAccountsSo_431 kb_8 ?_
          obtain ⟨p10, hv, h⟩ := bd h
          refine G.callV (e_xx_count hv) cs_L_areAccountsSo_X7_count ck7 shX_0 rfl rfl (Nat.le_of_ble_eq_true rfl) q264 q265 q266 dL_areAccountsSo_433 ?_
          refine G.iconst dL_areAccountsSo_436 ki_3 ?_
          refine G.irem dL_areAccountsSo_437 (by decide) ?_
          refine G.if_ne 524 dL_areAccountsSo_438 rfl (fun c => ?_) (fun c => ?_)
          · replace h := (if_neg c).symm.trans h
            exact eb_xl_areAccountsSo_524  h
          · replace h := (if_pos c).symm.trans h
            refine G.aload_n (i := 0) dL_areAccountsSo_441 rfl rfl ?_
            refine G.bipush dL_areAccountsSo_442 kb_6 ?_
            obtain ⟨p11, hv, h⟩ := bd h
            refine G.callV (e_xx_count hv) cs_L_areAccountsSo_X7_count ck7 shX_0 rfl rfl (Nat.le_of_ble_eq_true rfl) q264 q265 q266 dL_areAccountsSo_444 ?_
            refine G.aload_n (i := 0) dL_areAccountsSo_447 rfl rfl ?_
            refine G.bipush dL_areAccountsSo_448 kb_14 ?_
            obtain ⟨p12, hv, h⟩ := bd h
            refine G.callV (e_xx_count hv) cs_L_areAccountsSo_X7_count ck7 shX_0 rfl rfl (Nat.le_of_ble_eq_true rfl) q264 q265 q266 dL_areAccountsSo_450 ?_
            refine G.iadd dL_areAccountsSo_453 ?_
            refine G.aload_n (i := 0) dL_areAccountsSo_454 rfl rfl ?_
            refine G.bipush dL_areAccountsSo_455 kb_15 ?_
            obtain ⟨p13, hv, h⟩ := bd h
            refine G.callV (e_xx_count hv) cs_L_areAccountsSo_X7_count ck7 shX_0 rfl rfl (Nat.le_of_ble_eq_true rfl) q264 q265 q266 dL_areAccountsSo_457 ?_
            refine G.iadd dL_areAccountsSo_460 ?_
            refine G.iload_n (i := 1) dL_areAccountsSo_461 rfl rfl ?_
            refine G.icmp_ne 524 dL_areAccountsSo_462 rfl (fun c => ?_) (fun c => ?_)
            · replace h := (if_neg c).symm.trans h
              exact eb_xl_areAccountsSo_524  h
            · replace h := (if_pos c).symm.trans h
              refine G.aload_n (i := 0) dL_areAccountsSo_465 rfl rfl ?_
              refine G.iconst dL_areAccountsSo_466 ki_3 ?_
              obtain ⟨p14, hv, h⟩ := bd h
              refine G.callV (e_xx_count hv) cs_L_areAccountsSo_X7_count ck7 shX_0 rfl rfl (Nat.le_of_ble_eq_true rfl) q264 q265 q266 dL_areAccountsSo_467 ?_
              refine G.iload dL_areAccountsSo_470 rfl ?_
              refine G.icmp_ne 524 dL_areAccountsSo_472 rfl (fun c => ?_) (fun c => ?_)
              · replace h := (if_neg c).symm.trans h
                exact eb_xl_areAccountsSo_524  h
              · replace h := (if_pos c).symm.trans h
                refine G.aload_n (i := 0) dL_areAccountsSo_475 rfl rfl ?_
                refine G.iconst dL_areAccountsSo_476 ki_3 ?_
                obtain ⟨p15, hv, h⟩ := bd h
                refine G.callV (e_xx_count hv) cs_L_areAccountsSo_X7_count ck7 shX_0 rfl rfl (Nat.le_of_ble_eq_true rfl) q264 q265 q266 dL_areAccountsSo_477 ?_
                refine G.aload_n (i := 0) dL_areAccountsSo_480 rfl rfl ?_
                refine G.iconst dL_areAccountsSo_481 ki_4 ?_
                obtain ⟨p16, hv, h⟩ := bd h
                refine G.callV (e_xx_count hv) cs_L_areAccountsSo_X7_count ck7 shX_0 rfl rfl (Nat.le_of_ble_eq_true rfl) q264 q265 q266 dL_areAccountsSo_482 ?_
                refine G.imul dL_areAccountsSo_485 ?_
                refine G.sipush dL_areAccountsSo_486 ks_6561 ?_
                refine G.icmp_ne 524 dL_areAccountsSo_489 rfl (fun c => ?_) (fun c => ?_)
                · replace h := (if_neg c).symm.trans h
                  exact eb_xl_areAccountsSo_524  h
                · replace h := (if_pos c).symm.trans h
                  refine G.aload_n (i := 0) dL_areAccountsSo_492 rfl rfl ?_
                  refine G.iconst dL_areAccountsSo_493 ki_2 ?_
                  obtain ⟨p17, hv, h⟩ := bd h
                  refine G.callV (e_xx_count hv) cs_L_areAccountsSo_X7_count ck7 shX_0 rfl rfl (Nat.le_of_ble_eq_true rfl) q264 q265 q266 dL_areAccountsSo_494 ?_
                  refine G.aload_n (i := 0) dL_areAccountsSo_497 rfl rfl ?_
                  refine G.iconst dL_areAccountsSo_498 ki_1 ?_
                  obtain ⟨p18, hv, h⟩ := bd h
                  refine G.callV (e_xx_count hv) cs_L_areAccountsSo_X7_count ck7 shX_0 rfl rfl (Nat.le_of_ble_eq_true rfl) q264 q265 q266 dL_areAccountsSo_499 ?_
                  refine G.icmp_gt 524 dL_areAccountsSo_502 rfl (fun c => ?_) (fun c => ?_)
                  · replace h := (if_pos c).symm.trans h
                    exact eb_xl_areAccountsSo_524  h
                  · replace h := (if_neg c).symm.trans h
                    refine G.aload_n (i := 0) dL_areAccountsSo_505 rfl rfl ?_
                    refine G.aload_n (i := 0) dL_areAccountsSo_506 rfl rfl ?_
                    refine G.iconst dL_areAccountsSo_507 ki_5 ?_
                    obtain ⟨p19, hv, h⟩ := bd h
                    refine G.callV (e_xx_count hv) cs_L_areAccountsSo_X7_count ck7 shX_0 rfl rfl (Nat.le_of_ble_eq_true rfl) q264 q265 q266 dL_areAccountsSo_508 ?_
                    refine G.iconst dL_areAccountsSo_511 ki_0 ?_
                    obtain ⟨p20, hv, h⟩ := bd h
                    refine G.callV (e_xx_shelf hv) cs_L_areAccountsSo_X7_shelf ck7 shX_0 rfl rfl (Nat.le_of_ble_eq_true rfl) q540 q541 q542 dL_areAccountsSo_512 ?_
                    refine G.bipush dL_areAccountsSo_515 kb_m5 ?_
                    refine G.icmp_ne 524 dL_areAccountsSo_517 rfl (fun c => ?_) (fun c => ?_)
                    · replace h := (if_neg c).symm.trans h
                      exact eb_xl_areAccountsSo_524  h
                    · replace h := (if_pos c).symm.trans h
                      refine G.iconst dL_areAccountsSo_520 ki_1 ?_
                      refine G.goto 525 dL_areAccountsSo_521 rfl ?_
                      exact eb_xl_areAccountsSo_525  h
set_option maxRecDepth 100000 in
theorem eb_xl_areAccountsSo_353 : ∀ (n : Nat) (x1 : Int) (x2 : Int) (x3 : Int) (x5 : Int) (x7 : Int) (x8 : Int) (o4 : Option PV) (o6 : Option PV) (μ : Mem) (res : (Int × Mem)), xl_areAccountsSo_353 n x1 x2 x3 x5 x7 x8 μ = some res → G shX l D ad ca YL_areAccountsSo 353 [some (.inr 0), some (.inl x1), some (.inl x2), some (.inl x3), o4, some (.inl x5), o6, some (.inl x7), some (.inl x8)] [] μ (some (.inl res.1)) res.2 := by
  intro n
  induction n with
  | zero =>
    intro x1 x2 x3 x5 x7 x8 o4 o6 μ res h
    rw [xl_areAccountsSo_353] at h
    cases h
  | succ n ih =>
    intro x1 x2 x3 x5 x7 x8 o4 o6 μ res h
    rw [xl_areAccountsSo_353] at h
    refine G.iload dL_areAccountsSo_353 rfl ?_
    refine G.aload_n (i := 0) dL_areAccountsSo_355 rfl rfl ?_
    refine G.iconst dL_areAccountsSo_356 ki_2 ?_
    obtain ⟨p3, hv, h⟩ := bd h
    refine G.callV (e_xx_count hv) cs_L_areAccountsSo_X7_count ck7 shX_0 rfl rfl (Nat.le_of_ble_eq_true rfl) q264 q265 q266 dL_areAccountsSo_357 ?_
    refine G.icmp_ge 375 dL_areAccountsSo_360 rfl (fun c => ?_) (fun c => ?_)
    · replace h := (if_pos c).symm.trans h
      exact eb_xl_areAccountsSo_375  h
    · replace h := (if_neg c).symm.trans h
      refine G.iload dL_areAccountsSo_363 rfl ?_
      refine G.iconst dL_areAccountsSo_365 ki_3 ?_
      refine G.imul dL_areAccountsSo_366 ?_
      replace h := bnd_mp h
      refine G.istore dL_areAccountsSo_367 (Nat.le_of_ble_eq_true rfl) ?_
      replace h := bnd_mp h
      refine G.iinc dL_areAccountsSo_369 rfl (Nat.le_of_ble_eq_true rfl) ?_
      refine G.goto 353 dL_areAccountsSo_372 rfl ?_
      exact ih _ _ _ _ _ _ _ _ _ _ h
set_option maxRecDepth 100000 in
theorem eb_xl_areAccountsSo_347 {x1 : Int} {x2 : Int} {x3 : Int} {x5 : Int} {o4 : Option PV} {o6 : Option PV} {o7 : Option PV} {o8 : Option PV} {μ : Mem} {res : (Int × Mem)} (h : xl_areAccountsSo_347 x1 x2 x3 x5 μ = some res) : G shX l D ad ca YL_areAccountsSo 347 [some (.inr 0), some (.inl x1), some (.inl x2), some (.inl x3), o4, some (.inl x5), o6, o7, o8] [] μ (some (.inl res.1)) res.2 := by
  rw [xl_areAccountsSo_347] at h
  refine G.iconst dL_areAccountsSo_347 ki_1 ?_
  refine G.istore dL_areAccountsSo_348 (Nat.le_of_ble_eq_true rfl) ?_
  refine G.iconst dL_areAccountsSo_350 ki_0 ?_
  refine G.istore dL_areAccountsSo_351 (Nat.le_of_ble_eq_true rfl) ?_
  exact eb_xl_areAccountsSo_353  _ _ _ _ _ _ _ _ _ _ _ h
set_option maxRecDepth 100000 in
theorem eb_xl_areAccountsSo_320 {K167 : Int → Int → Int → Int → Int → Int → Mem → Option (Int × Mem)} (hK167 : ∀ (x1 : Int) (x2 : Int) (x3 : Int) (x5 : Int) (x6 : Int) (x7 : Int) (o4 : Option PV) (o8 : Option PV) (μ : Mem) (res : (Int × Mem)), K167 x1 x2 x3 x5 x6 x7 μ = some res → G shX l D ad ca YL_areAccountsSo 167 [some (.inr 0), some (.inl x1), some (.inl x2), some (.inl x3), o4, some (.inl x5), some (.inl x6), some (.inl x7), o8] [] μ (some (.inl res.1)) res.2) {x1 : Int} {x2 : Int} {x3 : Int} {x7 : Int} {s0 : Int} {o4 : Option PV} {o5 : Option PV} {o6 : Option PV} {o8 : Option PV} {μ : Mem} {res : (Int × Mem)} (h : xl_areAccountsSo_320 K167 x1 x2 x3 x7 s0 μ = some res) : G shX l D ad ca YL_areAccountsSo 320 [some (.inr 0), some (.inl x1), some (.inl x2), some (.inl x3), o4, o5, o6, some (.inl x7), o8] [.inl s0] μ (some (.inl res.1)) res.2 := by
  rw [xl_areAccountsSo_320] at h
  refine G.istore dL_areAccountsSo_320 (Nat.le_of_ble_eq_true rfl) ?_
  refine G.aload_n (i := 0) dL_areAccountsSo_322 rfl rfl ?_
  refine G.iload dL_areAccountsSo_323 rfl ?_
  refine G.iconst dL_areAccountsSo_325 ki_0 ?_
  obtain ⟨p23, hv, h⟩ := bd h
  refine G.callV (e_xx_shelf hv) cs_L_areAccountsSo_X7_shelf ck7 shX_0 rfl rfl (Nat.le_of_ble_eq_true rfl) q540 q541 q542 dL_areAccountsSo_326 ?_
  replace h := bnd_mp h
  refine G.istore dL_areAccountsSo_329 (Nat.le_of_ble_eq_true rfl) ?_
  refine G.iload_n (i := 3) dL_areAccountsSo_331 rfl rfl ?_
  refine G.aload_n (i := 0) dL_areAccountsSo_332 rfl rfl ?_
  refine G.iload dL_areAccountsSo_333 rfl ?_
  refine G.iconst dL_areAccountsSo_335 ki_1 ?_
  obtain ⟨p25, hv, h⟩ := bd h
  refine G.callV (e_xx_shelf hv) cs_L_areAccountsSo_X7_shelf ck7 shX_0 rfl rfl (Nat.le_of_ble_eq_true rfl) q540 q541 q542 dL_areAccountsSo_336 ?_
  refine G.iadd dL_areAccountsSo_339 ?_
  replace h := bnd_mp h
  refine G.istore_n (i := 3) dL_areAccountsSo_340 rfl (Nat.le_of_ble_eq_true rfl) ?_
  replace h := bnd_mp h
  refine G.iinc dL_areAccountsSo_341 rfl (Nat.le_of_ble_eq_true rfl) ?_
  refine G.goto 167 dL_areAccountsSo_344 rfl ?_
  exact hK167 _ _ _ _ _ _ _ _ _ _ h
set_option maxRecDepth 100000 in
theorem eb_xl_areAccountsSo_319 {K167 : Int → Int → Int → Int → Int → Int → Mem → Option (Int × Mem)} (hK167 : ∀ (x1 : Int) (x2 : Int) (x3 : Int) (x5 : Int) (x6 : Int) (x7 : Int) (o4 : Option PV) (o8 : Option PV) (μ : Mem) (res : (Int × Mem)), K167 x1 x2 x3 x5 x6 x7 μ = some res → G shX l D ad ca YL_areAccountsSo 167 [some (.inr 0), some (.inl x1), some (.inl x2), some (.inl x3), o4, some (.inl x5), some (.inl x6), some (.inl x7), o8] [] μ (some (.inl res.1)) res.2) {x1 : Int} {x2 : Int} {x3 : Int} {x7 : Int} {o4 : Option PV} {o5 : Option PV} {o6 : Option PV} {o8 : Option PV} {μ : Mem} {res : (Int × Mem)} (h : xl_areAccountsSo_319 K167 x1 x2 x3 x7 μ = some res) : G shX l D ad ca YL_areAccountsSo 319 [some (.inr 0), some (.inl x1), some (.inl x2), some (.inl x3), o4, o5, o6, some (.inl x7), o8] [] μ (some (.inl res.1)) res.2 := by
  rw [xl_areAccountsSo_319] at h
  refine G.iconst dL_areAccountsSo_319 ki_0 ?_
  exact eb_xl_areAccountsSo_320 hK167 h
set_option maxRecDepth 100000 in
theorem eb_xl_areAccountsSo_167 : ∀ (n : Nat) (x1 : Int) (x2 : Int) (x3 : Int) (x5 : Int) (x6 : Int) (x7 : Int) (o4 : Option PV) (o8 : Option PV) (μ : Mem) (res : (Int × Mem)), xl_areAccountsSo_167 n x1 x2 x3 x5 x6 x7 μ = some res → G shX l D ad ca YL_areAccountsSo 167 [some (.inr 0), some (.inl x1), some (.inl x2), some (.inl x3), o4, some (.inl x5), some (.inl x6), some (.inl x7), o8] [] μ (some (.inl res.1)) res.2 := by
  intro n
  induction n with
  | zero =>
    intro x1 x2 x3 x5 x6 x7 o4 o8 μ res h
    rw [xl_areAccountsSo_167] at h
    cases h
  | succ n ih =>
    intro x1 x2 x3 x5 x6 x7 o4 o8 μ res h
    rw [xl_areAccountsSo_167] at h
    refine G.iload dL_areAccountsSo_167 rfl ?_
    refine G.aload_n (i := 0) dL_areAccountsSo_169 rfl rfl ?_
    refine G.iconst dL_areAccountsSo_170 ki_5 ?_
    obtain ⟨p2, hv, h⟩ := bd h
    refine G.callV (e_xx_count hv) cs_L_areAccountsSo_X7_count ck7 shX_0 rfl rfl (Nat.le_of_ble_eq_true rfl) q264 q265 q266 dL_areAccountsSo_171 ?_
    refine G.icmp_ge 347 dL_areAccountsSo_174 rfl (fun c => ?_) (fun c => ?_)
    · replace h := (if_pos c).symm.trans h
      exact eb_xl_areAccountsSo_347  h
    · replace h := (if_neg c).symm.trans h
      refine G.iload dL_areAccountsSo_177 rfl ?_
      refine G.if_eq 319 dL_areAccountsSo_179 rfl (fun c => ?_) (fun c => ?_)
      · replace h := (if_pos c).symm.trans h
        exact eb_xl_areAccountsSo_319 ih h
      · replace h := (if_neg c).symm.trans h
        refine G.aload_n (i := 0) dL_areAccountsSo_182 rfl rfl ?_
        refine G.iload dL_areAccountsSo_183 rfl ?_
        refine G.iconst dL_areAccountsSo_185 ki_0 ?_
        obtain ⟨p28, hv, h⟩ := bd h
        refine G.callV (e_xx_shelf hv) cs_L_areAccountsSo_X7_shelf ck7 shX_0 rfl rfl (Nat.le_of_ble_eq_true rfl) q540 q541 q542 dL_areAccountsSo_186 ?_
        refine G.iload dL_areAccountsSo_189 rfl ?_
        refine G.icmp_le 319 dL_areAccountsSo_191 rfl (fun c => ?_) (fun c => ?_)
        · replace h := (if_pos c).symm.trans h
          exact eb_xl_areAccountsSo_319 ih h
        · replace h := (if_neg c).symm.trans h
          refine G.aload_n (i := 0) dL_areAccountsSo_194 rfl rfl ?_
          refine G.iload dL_areAccountsSo_195 rfl ?_
          refine G.iconst dL_areAccountsSo_197 ki_1 ?_
          obtain ⟨p29, hv, h⟩ := bd h
          refine G.callV (e_xx_shelf hv) cs_L_areAccountsSo_X7_shelf ck7 shX_0 rfl rfl (Nat.le_of_ble_eq_true rfl) q540 q541 q542 dL_areAccountsSo_198 ?_
          refine G.if_le 319 dL_areAccountsSo_201 rfl (fun c => ?_) (fun c => ?_)
          · replace h := (if_pos c).symm.trans h
            exact eb_xl_areAccountsSo_319 ih h
          · replace h := (if_neg c).symm.trans h
            refine G.aload_n (i := 0) dL_areAccountsSo_204 rfl rfl ?_
            refine G.aload_n (i := 0) dL_areAccountsSo_205 rfl rfl ?_
            refine G.iload dL_areAccountsSo_206 rfl ?_
            refine G.iconst dL_areAccountsSo_208 ki_2 ?_
            obtain ⟨p30, hv, h⟩ := bd h
            refine G.callV (e_xx_shelf hv) cs_L_areAccountsSo_X7_shelf ck7 shX_0 rfl rfl (Nat.le_of_ble_eq_true rfl) q540 q541 q542 dL_areAccountsSo_209 ?_
            refine G.iconst dL_areAccountsSo_212 ki_3 ?_
            obtain ⟨p31, hv, h⟩ := bd h
            refine G.callV (e_xx_jarOf hv) cs_L_areAccountsSo_X7_jarOf ck7 shX_0 rfl rfl (Nat.le_of_ble_eq_true rfl) q469 q470 q471 dL_areAccountsSo_213 ?_
            refine G.aload_n (i := 0) dL_areAccountsSo_216 rfl rfl ?_
            refine G.iload dL_areAccountsSo_217 rfl ?_
            refine G.iconst dL_areAccountsSo_219 ki_0 ?_
            obtain ⟨p32, hv, h⟩ := bd h
            refine G.callV (e_xx_shelf hv) cs_L_areAccountsSo_X7_shelf ck7 shX_0 rfl rfl (Nat.le_of_ble_eq_true rfl) q540 q541 q542 dL_areAccountsSo_220 ?_
            refine G.icmp_ne 319 dL_areAccountsSo_223 rfl (fun c => ?_) (fun c => ?_)
            · replace h := (if_neg c).symm.trans h
              exact eb_xl_areAccountsSo_319 ih h
            · replace h := (if_pos c).symm.trans h
              refine G.aload_n (i := 0) dL_areAccountsSo_226 rfl rfl ?_
              refine G.aload_n (i := 0) dL_areAccountsSo_227 rfl rfl ?_
              refine G.iload dL_areAccountsSo_228 rfl ?_
              refine G.iconst dL_areAccountsSo_230 ki_3 ?_
              obtain ⟨p33, hv, h⟩ := bd h
              refine G.callV (e_xx_shelf hv) cs_L_areAccountsSo_X7_shelf ck7 shX_0 rfl rfl (Nat.le_of_ble_eq_true rfl) q540 q541 q542 dL_areAccountsSo_231 ?_
              refine G.iconst dL_areAccountsSo_234 ki_3 ?_
              obtain ⟨p34, hv, h⟩ := bd h
              refine G.callV (e_xx_jarOf hv) cs_L_areAccountsSo_X7_jarOf ck7 shX_0 rfl rfl (Nat.le_of_ble_eq_true rfl) q469 q470 q471 dL_areAccountsSo_235 ?_
              refine G.aload_n (i := 0) dL_areAccountsSo_238 rfl rfl ?_
              refine G.iload dL_areAccountsSo_239 rfl ?_
              refine G.iconst dL_areAccountsSo_241 ki_0 ?_
              obtain ⟨p35, hv, h⟩ := bd h
              refine G.callV (e_xx_shelf hv) cs_L_areAccountsSo_X7_shelf ck7 shX_0 rfl rfl (Nat.le_of_ble_eq_true rfl) q540 q541 q542 dL_areAccountsSo_242 ?_
              refine G.icmp_ne 319 dL_areAccountsSo_245 rfl (fun c => ?_) (fun c => ?_)
              · replace h := (if_neg c).symm.trans h
                exact eb_xl_areAccountsSo_319 ih h
              · replace h := (if_pos c).symm.trans h
                refine G.aload_n (i := 0) dL_areAccountsSo_248 rfl rfl ?_
                refine G.aload_n (i := 0) dL_areAccountsSo_249 rfl rfl ?_
                refine G.iload dL_areAccountsSo_250 rfl ?_
                refine G.iconst dL_areAccountsSo_252 ki_3 ?_
                obtain ⟨p36, hv, h⟩ := bd h
                refine G.callV (e_xx_shelf hv) cs_L_areAccountsSo_X7_shelf ck7 shX_0 rfl rfl (Nat.le_of_ble_eq_true rfl) q540 q541 q542 dL_areAccountsSo_253 ?_
                refine G.iconst dL_areAccountsSo_256 ki_2 ?_
                obtain ⟨p37, hv, h⟩ := bd h
                refine G.callV (e_xx_jarOf hv) cs_L_areAccountsSo_X7_jarOf ck7 shX_0 rfl rfl (Nat.le_of_ble_eq_true rfl) q469 q470 q471 dL_areAccountsSo_257 ?_
                refine G.aload_n (i := 0) dL_areAccountsSo_260 rfl rfl ?_
                refine G.aload_n (i := 0) dL_areAccountsSo_261 rfl rfl ?_
                refine G.iload dL_areAccountsSo_262 rfl ?_
                refine G.iconst dL_areAccountsSo_264 ki_2 ?_
                obtain ⟨p38, hv, h⟩ := bd h
                refine G.callV (e_xx_shelf hv) cs_L_areAccountsSo_X7_shelf ck7 shX_0 rfl rfl (Nat.le_of_ble_eq_true rfl) q540 q541 q542 dL_areAccountsSo_265 ?_
                refine G.iconst dL_areAccountsSo_268 ki_2 ?_
                obtain ⟨p39, hv, h⟩ := bd h
                refine G.callV (e_xx_jarOf hv) cs_L_areAccountsSo_X7_jarOf ck7 shX_0 rfl rfl (Nat.le_of_ble_eq_true rfl) q469 q470 q471 dL_areAccountsSo_269 ?_
                refine G.icmp_gt 319 dL_areAccountsSo_272 rfl (fun c => ?_) (fun c => ?_)
                · replace h := (if_pos c).symm.trans h
                  exact eb_xl_areAccountsSo_319 ih h
                · replace h := (if_neg c).symm.trans h
                  refine G.aload_n (i := 0) dL_areAccountsSo_275 rfl rfl ?_
                  refine G.iload dL_areAccountsSo_276 rfl ?_
                  refine G.iconst dL_areAccountsSo_278 ki_2 ?_
                  obtain ⟨p40, hv, h⟩ := bd h
                  refine G.callV (e_xx_shelf hv) cs_L_areAccountsSo_X7_shelf ck7 shX_0 rfl rfl (Nat.le_of_ble_eq_true rfl) q540 q541 q542 dL_areAccountsSo_279 ?_
                  refine G.aload_n (i := 0) dL_areAccountsSo_282 rfl rfl ?_
                  refine G.iload dL_areAccountsSo_283 rfl ?_
                  refine G.iconst dL_areAccountsSo_285 ki_3 ?_
                  obtain ⟨p41, hv, h⟩ := bd h
                  refine G.callV (e_xx_shelf hv) cs_L_areAccountsSo_X7_shelf ck7 shX_0 rfl rfl (Nat.le_of_ble_eq_true rfl) q540 q541 q542 dL_areAccountsSo_286 ?_
                  refine G.icmp_gt 319 dL_areAccountsSo_289 rfl (fun c => ?_) (fun c => ?_)
                  · replace h := (if_pos c).symm.trans h
                    exact eb_xl_areAccountsSo_319 ih h
                  · replace h := (if_neg c).symm.trans h
                    refine G.aload_n (i := 0) dL_areAccountsSo_292 rfl rfl ?_
                    refine G.aload_n (i := 0) dL_areAccountsSo_293 rfl rfl ?_
                    refine G.iload dL_areAccountsSo_294 rfl ?_
                    refine G.iconst dL_areAccountsSo_296 ki_0 ?_
                    obtain ⟨p42, hv, h⟩ := bd h
                    refine G.callV (e_xx_shelf hv) cs_L_areAccountsSo_X7_shelf ck7 shX_0 rfl rfl (Nat.le_of_ble_eq_true rfl) q540 q541 q542 dL_areAccountsSo_297 ?_
                    refine G.bipush dL_areAccountsSo_300 kb_6 ?_
                    obtain ⟨p43, hv, h⟩ := bd h
                    refine G.callV (e_xx_mixOf hv) cs_L_areAccountsSo_X7_mixOf ck7 shX_0 rfl rfl (Nat.le_of_ble_eq_true rfl) q530 q531 q532 dL_areAccountsSo_302 ?_
                    refine G.aload_n (i := 0) dL_areAccountsSo_305 rfl rfl ?_
                    refine G.iload dL_areAccountsSo_306 rfl ?_
                    refine G.iconst dL_areAccountsSo_308 ki_1 ?_
                    obtain ⟨p44, hv, h⟩ := bd h
                    refine G.callV (e_xx_shelf hv) cs_L_areAccountsSo_X7_shelf ck7 shX_0 rfl rfl (Nat.le_of_ble_eq_true rfl) q540 q541 q542 dL_areAccountsSo_309 ?_
                    refine G.icmp_ne 319 dL_areAccountsSo_312 rfl (fun c => ?_) (fun c => ?_)
                    · replace h := (if_neg c).symm.trans h
                      exact eb_xl_areAccountsSo_319 ih h
                    · replace h := (if_pos c).symm.trans h
                      refine G.iconst dL_areAccountsSo_315 ki_1 ?_
                      refine G.goto 320 dL_areAccountsSo_316 rfl ?_
                      exact eb_xl_areAccountsSo_320 ih h
set_option maxRecDepth 100000 in
theorem eb_xl_areAccountsSo_161 {x1 : Int} {x2 : Int} {x3 : Int} {x5 : Int} {o4 : Option PV} {o6 : Option PV} {o7 : Option PV} {o8 : Option PV} {μ : Mem} {res : (Int × Mem)} (h : xl_areAccountsSo_161 x1 x2 x3 x5 μ = some res) : G shX l D ad ca YL_areAccountsSo 161 [some (.inr 0), some (.inl x1), some (.inl x2), some (.inl x3), o4, some (.inl x5), o6, o7, o8] [] μ (some (.inl res.1)) res.2 := by
  rw [xl_areAccountsSo_161] at h
  refine G.iconst dL_areAccountsSo_161 ki_m1 ?_
  refine G.istore dL_areAccountsSo_162 (Nat.le_of_ble_eq_true rfl) ?_
  refine G.iconst dL_areAccountsSo_164 ki_0 ?_
  refine G.istore dL_areAccountsSo_165 (Nat.le_of_ble_eq_true rfl) ?_
  exact eb_xl_areAccountsSo_167  _ _ _ _ _ _ _ _ _ _ _ h
set_option maxRecDepth 100000 in
theorem eb_xl_areAccountsSo_149 {K13 : Int → Int → Int → Int → Int → Int → Mem → Option (Int × Mem)} (hK13 : ∀ (x1 : Int) (x2 : Int) (x3 : Int) (x4 : Int) (x5 : Int) (x6 : Int) (o7 : Option PV) (o8 : Option PV) (μ : Mem) (res : (Int × Mem)), K13 x1 x2 x3 x4 x5 x6 μ = some res → G shX l D ad ca YL_areAccountsSo 13 [some (.inr 0), some (.inl x1), some (.inl x2), some (.inl x3), some (.inl x4), some (.inl x5), some (.inl x6), o7, o8] [] μ (some (.inl res.1)) res.2) {x1 : Int} {x2 : Int} {x3 : Int} {x6 : Int} {x7 : Int} {s0 : Int} {o4 : Option PV} {o5 : Option PV} {o8 : Option PV} {μ : Mem} {res : (Int × Mem)} (h : xl_areAccountsSo_149 K13 x1 x2 x3 x6 x7 s0 μ = some res) : G shX l D ad ca YL_areAccountsSo 149 [some (.inr 0), some (.inl x1), some (.inl x2), some (.inl x3), o4, o5, some (.inl x6), some (.inl x7), o8] [.inl s0] μ (some (.inl res.1)) res.2 := by
  rw [xl_areAccountsSo_149] at h
  refine G.istore dL_areAccountsSo_149 (Nat.le_of_ble_eq_true rfl) ?_
  refine G.iload dL_areAccountsSo_151 rfl ?_
  refine G.istore dL_areAccountsSo_153 (Nat.le_of_ble_eq_true rfl) ?_
  replace h := bnd_mp h
  refine G.iinc dL_areAccountsSo_155 rfl (Nat.le_of_ble_eq_true rfl) ?_
  refine G.goto 13 dL_areAccountsSo_158 rfl ?_
  exact hK13 _ _ _ _ _ _ _ _ _ _ h
set_option maxRecDepth 100000 in
theorem eb_xl_areAccountsSo_148 {K13 : Int → Int → Int → Int → Int → Int → Mem → Option (Int × Mem)} (hK13 : ∀ (x1 : Int) (x2 : Int) (x3 : Int) (x4 : Int) (x5 : Int) (x6 : Int) (o7 : Option PV) (o8 : Option PV) (μ : Mem) (res : (Int × Mem)), K13 x1 x2 x3 x4 x5 x6 μ = some res → G shX l D ad ca YL_areAccountsSo 13 [some (.inr 0), some (.inl x1), some (.inl x2), some (.inl x3), some (.inl x4), some (.inl x5), some (.inl x6), o7, o8] [] μ (some (.inl res.1)) res.2) {x1 : Int} {x2 : Int} {x3 : Int} {x6 : Int} {x7 : Int} {o4 : Option PV} {o5 : Option PV} {o8 : Option PV} {μ : Mem} {res : (Int × Mem)} (h : xl_areAccountsSo_148 K13 x1 x2 x3 x6 x7 μ = some res) : G shX l D ad ca YL_areAccountsSo 148 [some (.inr 0), some (.inl x1), some (.inl x2), some (.inl x3), o4, o5, some (.inl x6), some (.inl x7), o8] [] μ (some (.inl res.1)) res.2 := by
  rw [xl_areAccountsSo_148] at h
  refine G.iconst dL_areAccountsSo_148 ki_0 ?_
  exact eb_xl_areAccountsSo_149 hK13 h
set_option maxRecDepth 100000 in
theorem eb_xl_areAccountsSo_141 {K13 : Int → Int → Int → Int → Int → Int → Mem → Option (Int × Mem)} (hK13 : ∀ (x1 : Int) (x2 : Int) (x3 : Int) (x4 : Int) (x5 : Int) (x6 : Int) (o7 : Option PV) (o8 : Option PV) (μ : Mem) (res : (Int × Mem)), K13 x1 x2 x3 x4 x5 x6 μ = some res → G shX l D ad ca YL_areAccountsSo 13 [some (.inr 0), some (.inl x1), some (.inl x2), some (.inl x3), some (.inl x4), some (.inl x5), some (.inl x6), o7, o8] [] μ (some (.inl res.1)) res.2) {x1 : Int} {x2 : Int} {x3 : Int} {x6 : Int} {x7 : Int} {s0 : Int} {s1 : Int} {o4 : Option PV} {o5 : Option PV} {o8 : Option PV} {μ : Mem} {res : (Int × Mem)} (h : xl_areAccountsSo_141 K13 x1 x2 x3 x6 x7 s0 s1 μ = some res) : G shX l D ad ca YL_areAccountsSo 141 [some (.inr 0), some (.inl x1), some (.inl x2), some (.inl x3), o4, o5, some (.inl x6), some (.inl x7), o8] [.inl s1, .inl s0] μ (some (.inl res.1)) res.2 := by
  rw [xl_areAccountsSo_141] at h
  refine G.icmp_ne 148 dL_areAccountsSo_141 rfl (fun c => ?_) (fun c => ?_)
  · replace h := (if_neg c).symm.trans h
    exact eb_xl_areAccountsSo_148 hK13 h
  · replace h := (if_pos c).symm.trans h
    refine G.iconst dL_areAccountsSo_144 ki_1 ?_
    refine G.goto 149 dL_areAccountsSo_145 rfl ?_
    exact eb_xl_areAccountsSo_149 hK13 h
set_option maxRecDepth 100000 in
theorem eb_xl_areAccountsSo_13 : ∀ (n : Nat) (x1 : Int) (x2 : Int) (x3 : Int) (x4 : Int) (x5 : Int) (x6 : Int) (o7 : Option PV) (o8 : Option PV) (μ : Mem) (res : (Int × Mem)), xl_areAccountsSo_13 n x1 x2 x3 x4 x5 x6 μ = some res → G shX l D ad ca YL_areAccountsSo 13 [some (.inr 0), some (.inl x1), some (.inl x2), some (.inl x3), some (.inl x4), some (.inl x5), some (.inl x6), o7, o8] [] μ (some (.inl res.1)) res.2 := by
  intro n
  induction n with
  | zero =>
    intro x1 x2 x3 x4 x5 x6 o7 o8 μ res h
    rw [xl_areAccountsSo_13] at h
    cases h
  | succ n ih =>
    intro x1 x2 x3 x4 x5 x6 o7 o8 μ res h
    rw [xl_areAccountsSo_13] at h
    refine G.iload dL_areAccountsSo_13 rfl ?_
    refine G.aload_n (i := 0) dL_areAccountsSo_15 rfl rfl ?_
    refine G.iconst dL_areAccountsSo_16 ki_0 ?_
    obtain ⟨p1, hv, h⟩ := bd h
    refine G.callV (e_xx_count hv) cs_L_areAccountsSo_X7_count ck7 shX_0 rfl rfl (Nat.le_of_ble_eq_true rfl) q264 q265 q266 dL_areAccountsSo_17 ?_
    refine G.icmp_ge 161 dL_areAccountsSo_20 rfl (fun c => ?_) (fun c => ?_)
    · replace h := (if_pos c).symm.trans h
      exact eb_xl_areAccountsSo_161  h
    · replace h := (if_neg c).symm.trans h
      refine G.aload_n (i := 0) dL_areAccountsSo_23 rfl rfl ?_
      refine G.iload dL_areAccountsSo_24 rfl ?_
      obtain ⟨v45, hv, h⟩ := bd h
      refine G.callV (e_xx_ranked hv) cs_L_areAccountsSo_X7_ranked ck7 shX_0 rfl rfl (Nat.le_of_ble_eq_true rfl) q346 q347 q348 dL_areAccountsSo_26 ?_
      refine G.istore dL_areAccountsSo_29 (Nat.le_of_ble_eq_true rfl) ?_
      refine G.iload_n (i := 2) dL_areAccountsSo_31 rfl rfl ?_
      refine G.aload_n (i := 0) dL_areAccountsSo_32 rfl rfl ?_
      refine G.iload dL_areAccountsSo_33 rfl ?_
      refine G.iconst dL_areAccountsSo_35 ki_1 ?_
      obtain ⟨p46, hv, h⟩ := bd h
      refine G.callV (e_xx_jarOf hv) cs_L_areAccountsSo_X7_jarOf ck7 shX_0 rfl rfl (Nat.le_of_ble_eq_true rfl) q469 q470 q471 dL_areAccountsSo_36 ?_
      refine G.iadd dL_areAccountsSo_39 ?_
      replace h := bnd_mp h
      refine G.istore_n (i := 2) dL_areAccountsSo_40 rfl (Nat.le_of_ble_eq_true rfl) ?_
      refine G.iload dL_areAccountsSo_41 rfl ?_
      refine G.if_eq 148 dL_areAccountsSo_43 rfl (fun c => ?_) (fun c => ?_)
      · replace h := (if_pos c).symm.trans h
        exact eb_xl_areAccountsSo_148 ih h
      · replace h := (if_neg c).symm.trans h
        refine G.iload dL_areAccountsSo_46 rfl ?_
        refine G.iload dL_areAccountsSo_48 rfl ?_
        refine G.icmp_le 148 dL_areAccountsSo_50 rfl (fun c => ?_) (fun c => ?_)
        · replace h := (if_pos c).symm.trans h
          exact eb_xl_areAccountsSo_148 ih h
        · replace h := (if_neg c).symm.trans h
          refine G.aload_n (i := 0) dL_areAccountsSo_53 rfl rfl ?_
          refine G.iload dL_areAccountsSo_54 rfl ?_
          refine G.iconst dL_areAccountsSo_56 ki_1 ?_
          obtain ⟨p49, hv, h⟩ := bd h
          refine G.callV (e_xx_jarOf hv) cs_L_areAccountsSo_X7_jarOf ck7 shX_0 rfl rfl (Nat.le_of_ble_eq_true rfl) q469 q470 q471 dL_areAccountsSo_57 ?_
          refine G.aload_n (i := 0) dL_areAccountsSo_60 rfl rfl ?_
          refine G.aload_n (i := 0) dL_areAccountsSo_61 rfl rfl ?_
          refine G.iload dL_areAccountsSo_62 rfl ?_
          refine G.iconst dL_areAccountsSo_64 ki_0 ?_
          obtain ⟨p50, hv, h⟩ := bd h
          refine G.callV (e_xx_jarOf hv) cs_L_areAccountsSo_X7_jarOf ck7 shX_0 rfl rfl (Nat.le_of_ble_eq_true rfl) q469 q470 q471 dL_areAccountsSo_65 ?_
          refine G.iconst dL_areAccountsSo_68 ki_0 ?_
          obtain ⟨p51, hv, h⟩ := bd h
          refine G.callV (e_xx_mixOf hv) cs_L_areAccountsSo_X7_mixOf ck7 shX_0 rfl rfl (Nat.le_of_ble_eq_true rfl) q530 q531 q532 dL_areAccountsSo_69 ?_
          refine G.icmp_ne 148 dL_areAccountsSo_72 rfl (fun c => ?_) (fun c => ?_)
          · replace h := (if_neg c).symm.trans h
            exact eb_xl_areAccountsSo_148 ih h
          · replace h := (if_pos c).symm.trans h
            refine G.aload_n (i := 0) dL_areAccountsSo_75 rfl rfl ?_
            refine G.iload dL_areAccountsSo_76 rfl ?_
            refine G.iconst dL_areAccountsSo_78 ki_2 ?_
            obtain ⟨p52, hv, h⟩ := bd h
            refine G.callV (e_xx_jarOf hv) cs_L_areAccountsSo_X7_jarOf ck7 shX_0 rfl rfl (Nat.le_of_ble_eq_true rfl) q469 q470 q471 dL_areAccountsSo_79 ?_
            refine G.aload_n (i := 0) dL_areAccountsSo_82 rfl rfl ?_
            refine G.aload_n (i := 0) dL_areAccountsSo_83 rfl rfl ?_
            refine G.iload dL_areAccountsSo_84 rfl ?_
            refine G.iconst dL_areAccountsSo_86 ki_0 ?_
            obtain ⟨p53, hv, h⟩ := bd h
            refine G.callV (e_xx_jarOf hv) cs_L_areAccountsSo_X7_jarOf ck7 shX_0 rfl rfl (Nat.le_of_ble_eq_true rfl) q469 q470 q471 dL_areAccountsSo_87 ?_
            refine G.iconst dL_areAccountsSo_90 ki_1 ?_
            obtain ⟨p54, hv, h⟩ := bd h
            refine G.callV (e_xx_mixOf hv) cs_L_areAccountsSo_X7_mixOf ck7 shX_0 rfl rfl (Nat.le_of_ble_eq_true rfl) q530 q531 q532 dL_areAccountsSo_91 ?_
            refine G.icmp_ne 148 dL_areAccountsSo_94 rfl (fun c => ?_) (fun c => ?_)
            · replace h := (if_neg c).symm.trans h
              exact eb_xl_areAccountsSo_148 ih h
            · replace h := (if_pos c).symm.trans h
              refine G.aload_n (i := 0) dL_areAccountsSo_97 rfl rfl ?_
              refine G.iload dL_areAccountsSo_98 rfl ?_
              refine G.iconst dL_areAccountsSo_100 ki_3 ?_
              obtain ⟨p55, hv, h⟩ := bd h
              refine G.callV (e_xx_jarOf hv) cs_L_areAccountsSo_X7_jarOf ck7 shX_0 rfl rfl (Nat.le_of_ble_eq_true rfl) q469 q470 q471 dL_areAccountsSo_101 ?_
              refine G.aload_n (i := 0) dL_areAccountsSo_104 rfl rfl ?_
              refine G.aload_n (i := 0) dL_areAccountsSo_105 rfl rfl ?_
              refine G.iload dL_areAccountsSo_106 rfl ?_
              refine G.iconst dL_areAccountsSo_108 ki_0 ?_
              obtain ⟨p56, hv, h⟩ := bd h
              refine G.callV (e_xx_jarOf hv) cs_L_areAccountsSo_X7_jarOf ck7 shX_0 rfl rfl (Nat.le_of_ble_eq_true rfl) q469 q470 q471 dL_areAccountsSo_109 ?_
              refine G.iconst dL_areAccountsSo_112 ki_2 ?_
              obtain ⟨p57, hv, h⟩ := bd h
              refine G.callV (e_xx_mixOf hv) cs_L_areAccountsSo_X7_mixOf ck7 shX_0 rfl rfl (Nat.le_of_ble_eq_true rfl) q530 q531 q532 dL_areAccountsSo_113 ?_
              refine G.icmp_ne 148 dL_areAccountsSo_116 rfl (fun c => ?_) (fun c => ?_)
              · replace h := (if_neg c).symm.trans h
                exact eb_xl_areAccountsSo_148 ih h
              · replace h := (if_pos c).symm.trans h
                refine G.aload_n (i := 0) dL_areAccountsSo_119 rfl rfl ?_
                refine G.iload dL_areAccountsSo_120 rfl ?_
                refine G.iconst dL_areAccountsSo_122 ki_4 ?_
                obtain ⟨p58, hv, h⟩ := bd h
                refine G.callV (e_xx_jarOf hv) cs_L_areAccountsSo_X7_jarOf ck7 shX_0 rfl rfl (Nat.le_of_ble_eq_true rfl) q469 q470 q471 dL_areAccountsSo_123 ?_
                refine G.aload_n (i := 0) dL_areAccountsSo_126 rfl rfl ?_
                refine G.iload dL_areAccountsSo_127 rfl ?_
                refine G.iconst dL_areAccountsSo_129 ki_3 ?_
                obtain ⟨p59, hv, h⟩ := bd h
                refine G.callV (e_xx_jarOf hv) cs_L_areAccountsSo_X7_jarOf ck7 shX_0 rfl rfl (Nat.le_of_ble_eq_true rfl) q469 q470 q471 dL_areAccountsSo_130 ?_
                refine G.if_ne 140 dL_areAccountsSo_133 rfl (fun c => ?_) (fun c => ?_)
                · replace h := (if_neg c).symm.trans h
                  refine G.iconst dL_areAccountsSo_140 ki_0 ?_
                  exact eb_xl_areAccountsSo_141 ih h
                · replace h := (if_pos c).symm.trans h
                  refine G.iconst dL_areAccountsSo_136 ki_1 ?_
                  refine G.goto 141 dL_areAccountsSo_137 rfl ?_
                  exact eb_xl_areAccountsSo_141 ih h
set_option maxRecDepth 100000 in
theorem e_xl_areAccountsSo {a1 : Int} {μ : Mem} {res : (Int × Mem)} (h : xl_areAccountsSo a1 μ = some res) : GM shX l D ad ca YL_areAccountsSo [.inr 0, .inl a1] μ (some (.inl res.1)) res.2 := by
  refine GM.of (L := [some (.inr 0), some (.inl a1), none, none, none, none, none, none, none]) (by decide +kernel) rfl (Nat.le_of_ble_eq_true rfl) ?_
  rw [xl_areAccountsSo] at h
  refine G.iconst dL_areAccountsSo_0 ki_0 ?_
  refine G.istore_n (i := 2) dL_areAccountsSo_1 rfl (Nat.le_of_ble_eq_true rfl) ?_
  refine G.iconst dL_areAccountsSo_2 ki_0 ?_
  refine G.istore_n (i := 3) dL_areAccountsSo_3 rfl (Nat.le_of_ble_eq_true rfl) ?_
  refine G.iconst dL_areAccountsSo_4 ki_m1 ?_
  refine G.istore dL_areAccountsSo_5 (Nat.le_of_ble_eq_true rfl) ?_
  refine G.iconst dL_areAccountsSo_7 ki_1 ?_
  refine G.istore dL_areAccountsSo_8 (Nat.le_of_ble_eq_true rfl) ?_
  refine G.iconst dL_areAccountsSo_10 ki_0 ?_
  refine G.istore dL_areAccountsSo_11 (Nat.le_of_ble_eq_true rfl) ?_
  exact eb_xl_areAccountsSo_13  _ _ _ _ _ _ _ _ _ _ _ h
set_option maxRecDepth 100000 in
theorem eb_xl_isMixSo_404 {s0 : Int} {o1 : Option PV} {o2 : Option PV} {o3 : Option PV} {o4 : Option PV} {o5 : Option PV} {o6 : Option PV} {o7 : Option PV} {o8 : Option PV} {o9 : Option PV} {o10 : Option PV} {o11 : Option PV} {o12 : Option PV} {μ : Mem} {res : (Int × Mem)} (h : xl_isMixSo_404 s0 μ = some res) : G shX l D ad ca YL_isMixSo 404 [some (.inr 0), o1, o2, o3, o4, o5, o6, o7, o8, o9, o10, o11, o12] [.inl s0] μ (some (.inl res.1)) res.2 := by
  rw [xl_isMixSo_404] at h
  obtain ⟨hz, h⟩ := ite_yn h
  cases h
  exact G.zret .boolean dL_isMixSo_404 rfl (nar_z hz)
set_option maxRecDepth 100000 in
theorem eb_xl_isMixSo_403 {o1 : Option PV} {o2 : Option PV} {o3 : Option PV} {o4 : Option PV} {o5 : Option PV} {o6 : Option PV} {o7 : Option PV} {o8 : Option PV} {o9 : Option PV} {o10 : Option PV} {o11 : Option PV} {o12 : Option PV} {μ : Mem} {res : (Int × Mem)} (h : xl_isMixSo_403 μ = some res) : G shX l D ad ca YL_isMixSo 403 [some (.inr 0), o1, o2, o3, o4, o5, o6, o7, o8, o9, o10, o11, o12] [] μ (some (.inl res.1)) res.2 := by
  rw [xl_isMixSo_403] at h
  refine G.iconst dL_isMixSo_403 ki_0 ?_
  exact eb_xl_isMixSo_404  h
set_option maxRecDepth 100000 in
theorem eb_xl_isMixSo_399 {o1 : Option PV} {o2 : Option PV} {o3 : Option PV} {o4 : Option PV} {o5 : Option PV} {o6 : Option PV} {o7 : Option PV} {o8 : Option PV} {o9 : Option PV} {o10 : Option PV} {o11 : Option PV} {o12 : Option PV} {μ : Mem} {res : (Int × Mem)} (h : xl_isMixSo_399 μ = some res) : G shX l D ad ca YL_isMixSo 399 [some (.inr 0), o1, o2, o3, o4, o5, o6, o7, o8, o9, o10, o11, o12] [] μ (some (.inl res.1)) res.2 := by
  rw [xl_isMixSo_399] at h
  refine G.iconst dL_isMixSo_399 ki_1 ?_
  refine G.goto 404 dL_isMixSo_400 rfl ?_
  exact eb_xl_isMixSo_404  h
set_option maxRecDepth 100000 in
theorem eb_xl_isMixSo_322 {x4 : Int} {x5 : Int} {x7 : Int} {x8 : Int} {o1 : Option PV} {o2 : Option PV} {o3 : Option PV} {o6 : Option PV} {o9 : Option PV} {o10 : Option PV} {o11 : Option PV} {o12 : Option PV} {μ : Mem} {res : (Int × Mem)} (h : xl_isMixSo_322 x4 x5 x7 x8 μ = some res) : G shX l D ad ca YL_isMixSo 322 [some (.inr 0), o1, o2, o3, some (.inl x4), some (.inl x5), o6, some (.inl x7), some (.inl x8), o9, o10, o11, o12] [] μ (some (.inl res.1)) res.2 := by
  rw [xl_isMixSo_322] at h
  refine G.iload dL_isMixSo_322 rfl ?_
  refine G.if_eq 403 dL_isMixSo_324 rfl (fun c => ?_) (fun c => ?_)
  · replace h := (if_pos c).symm.trans h
    exact eb_xl_isMixSo_403  h
  · replace h := (if_neg c).symm.trans h
    refine G.aload_n (i := 0) dL_isMixSo_327 rfl rfl ?_
    refine G.iload dL_isMixSo_328 rfl ?_
    refine G.iconst dL_isMixSo_330 ki_2 ?_
    obtain ⟨p8, hv, h⟩ := bd h
    refine G.callV (e_xx_mixOf hv) cs_L_isMixSo_X7_mixOf ck7 shX_0 rfl rfl (Nat.le_of_ble_eq_true rfl) q530 q531 q532 dL_isMixSo_331 ?_
    refine G.iload dL_isMixSo_334 rfl ?_
    refine G.icmp_ne 403 dL_isMixSo_336 rfl (fun c => ?_) (fun c => ?_)
    · replace h := (if_neg c).symm.trans h
      exact eb_xl_isMixSo_403  h
    · replace h := (if_pos c).symm.trans h
      refine G.aload_n (i := 0) dL_isMixSo_339 rfl rfl ?_
      refine G.iload dL_isMixSo_340 rfl ?_
      refine G.iconst dL_isMixSo_342 ki_4 ?_
      obtain ⟨p9, hv, h⟩ := bd h
      refine G.callV (e_xx_mixOf hv) cs_L_isMixSo_X7_mixOf ck7 shX_0 rfl rfl (Nat.le_of_ble_eq_true rfl) q530 q531 q532 dL_isMixSo_343 ?_
      refine G.iload dL_isMixSo_346 rfl ?_
      refine G.icmp_ne 403 dL_isMixSo_348 rfl (fun c => ?_) (fun c => ?_)
      · replace h := (if_neg c).symm.trans h
        exact eb_xl_isMixSo_403  h
      · replace h := (if_pos c).symm.trans h
        refine G.iload dL_isMixSo_351 rfl ?_
        refine G.iload dL_isMixSo_353 rfl ?_
        refine G.icmp_lt 403 dL_isMixSo_355 rfl (fun c => ?_) (fun c => ?_)
        · replace h := (if_pos c).symm.trans h
          exact eb_xl_isMixSo_403  h
        · replace h := (if_neg c).symm.trans h
          refine G.aload_n (i := 0) dL_isMixSo_358 rfl rfl ?_
          refine G.iload dL_isMixSo_359 rfl ?_
          refine G.iconst dL_isMixSo_361 ki_1 ?_
          obtain ⟨p10, hv, h⟩ := bd h
          refine G.callV (e_xx_mixOf hv) cs_L_isMixSo_X7_mixOf ck7 shX_0 rfl rfl (Nat.le_of_ble_eq_true rfl) q530 q531 q532 dL_isMixSo_362 ?_
          refine G.aload_n (i := 0) dL_isMixSo_365 rfl rfl ?_
          refine G.iload dL_isMixSo_366 rfl ?_
          refine G.iconst dL_isMixSo_368 ki_1 ?_
          obtain ⟨p11, hv, h⟩ := bd h
          refine G.callV (e_xx_mixOf hv) cs_L_isMixSo_X7_mixOf ck7 shX_0 rfl rfl (Nat.le_of_ble_eq_true rfl) q530 q531 q532 dL_isMixSo_369 ?_
          refine G.icmp_lt 403 dL_isMixSo_372 rfl (fun c => ?_) (fun c => ?_)
          · replace h := (if_pos c).symm.trans h
            exact eb_xl_isMixSo_403  h
          · replace h := (if_neg c).symm.trans h
            refine G.aload_n (i := 0) dL_isMixSo_375 rfl rfl ?_
            refine G.iload dL_isMixSo_376 rfl ?_
            refine G.iconst dL_isMixSo_378 ki_1 ?_
            obtain ⟨p12, hv, h⟩ := bd h
            refine G.callV (e_xx_mixOf hv) cs_L_isMixSo_X7_mixOf ck7 shX_0 rfl rfl (Nat.le_of_ble_eq_true rfl) q530 q531 q532 dL_isMixSo_379 ?_
            refine G.aload_n (i := 0) dL_isMixSo_382 rfl rfl ?_
            refine G.iload dL_isMixSo_383 rfl ?_
            refine G.iconst dL_isMixSo_385 ki_1 ?_
            obtain ⟨p13, hv, h⟩ := bd h
            refine G.callV (e_xx_mixOf hv) cs_L_isMixSo_X7_mixOf ck7 shX_0 rfl rfl (Nat.le_of_ble_eq_true rfl) q530 q531 q532 dL_isMixSo_386 ?_
            refine G.icmp_gt 399 dL_isMixSo_389 rfl (fun c => ?_) (fun c => ?_)
            · replace h := (if_pos c).symm.trans h
              exact eb_xl_isMixSo_399  h
            · replace h := (if_neg c).symm.trans h
              refine G.iload dL_isMixSo_392 rfl ?_
              refine G.iload dL_isMixSo_394 rfl ?_
              refine G.icmp_lt 403 dL_isMixSo_396 rfl (fun c => ?_) (fun c => ?_)
              · replace h := (if_pos c).symm.trans h
                exact eb_xl_isMixSo_403  h
              · replace h := (if_neg c).symm.trans h
                exact eb_xl_isMixSo_399  h
set_option maxRecDepth 100000 in
theorem eb_xl_isMixSo_314 {K239 : Int → Int → Int → Int → Int → Int → Mem → Option (Int × Mem)} (hK239 : ∀ (x3 : Int) (x4 : Int) (x5 : Int) (x7 : Int) (x8 : Int) (x9 : Int) (o1 : Option PV) (o2 : Option PV) (o6 : Option PV) (o10 : Option PV) (o11 : Option PV) (o12 : Option PV) (μ : Mem) (res : (Int × Mem)), K239 x3 x4 x5 x7 x8 x9 μ = some res → G shX l D ad ca YL_isMixSo 239 [some (.inr 0), o1, o2, some (.inl x3), some (.inl x4), some (.inl x5), o6, some (.inl x7), some (.inl x8), some (.inl x9), o10, o11, o12] [] μ (some (.inl res.1)) res.2) {x3 : Int} {x4 : Int} {x5 : Int} {x8 : Int} {x9 : Int} {s0 : Int} {o1 : Option PV} {o2 : Option PV} {o6 : Option PV} {o7 : Option PV} {o10 : Option PV} {o11 : Option PV} {o12 : Option PV} {μ : Mem} {res : (Int × Mem)} (h : xl_isMixSo_314 K239 x3 x4 x5 x8 x9 s0 μ = some res) : G shX l D ad ca YL_isMixSo 314 [some (.inr 0), o1, o2, some (.inl x3), some (.inl x4), some (.inl x5), o6, o7, some (.inl x8), some (.inl x9), o10, o11, o12] [.inl s0] μ (some (.inl res.1)) res.2 := by
  rw [xl_isMixSo_314] at h
  refine G.istore dL_isMixSo_314 (Nat.le_of_ble_eq_true rfl) ?_
  replace h := bnd_mp h
  refine G.iinc dL_isMixSo_316 rfl (Nat.le_of_ble_eq_true rfl) ?_
  refine G.goto 239 dL_isMixSo_319 rfl ?_
  exact hK239 _ _ _ _ _ _ _ _ _ _ _ _ _ _ h
set_option maxRecDepth 100000 in
theorem eb_xl_isMixSo_313 {K239 : Int → Int → Int → Int → Int → Int → Mem → Option (Int × Mem)} (hK239 : ∀ (x3 : Int) (x4 : Int) (x5 : Int) (x7 : Int) (x8 : Int) (x9 : Int) (o1 : Option PV) (o2 : Option PV) (o6 : Option PV) (o10 : Option PV) (o11 : Option PV) (o12 : Option PV) (μ : Mem) (res : (Int × Mem)), K239 x3 x4 x5 x7 x8 x9 μ = some res → G shX l D ad ca YL_isMixSo 239 [some (.inr 0), o1, o2, some (.inl x3), some (.inl x4), some (.inl x5), o6, some (.inl x7), some (.inl x8), some (.inl x9), o10, o11, o12] [] μ (some (.inl res.1)) res.2) {x3 : Int} {x4 : Int} {x5 : Int} {x8 : Int} {x9 : Int} {o1 : Option PV} {o2 : Option PV} {o6 : Option PV} {o7 : Option PV} {o10 : Option PV} {o11 : Option PV} {o12 : Option PV} {μ : Mem} {res : (Int × Mem)} (h : xl_isMixSo_313 K239 x3 x4 x5 x8 x9 μ = some res) : G shX l D ad ca YL_isMixSo 313 [some (.inr 0), o1, o2, some (.inl x3), some (.inl x4), some (.inl x5), o6, o7, some (.inl x8), some (.inl x9), o10, o11, o12] [] μ (some (.inl res.1)) res.2 := by
  rw [xl_isMixSo_313] at h
  refine G.iconst dL_isMixSo_313 ki_0 ?_
  exact eb_xl_isMixSo_314 hK239 h
set_option maxRecDepth 100000 in
theorem eb_xl_isMixSo_293 {K239 : Int → Int → Int → Int → Int → Int → Mem → Option (Int × Mem)} (hK239 : ∀ (x3 : Int) (x4 : Int) (x5 : Int) (x7 : Int) (x8 : Int) (x9 : Int) (o1 : Option PV) (o2 : Option PV) (o6 : Option PV) (o10 : Option PV) (o11 : Option PV) (o12 : Option PV) (μ : Mem) (res : (Int × Mem)), K239 x3 x4 x5 x7 x8 x9 μ = some res → G shX l D ad ca YL_isMixSo 239 [some (.inr 0), o1, o2, some (.inl x3), some (.inl x4), some (.inl x5), o6, some (.inl x7), some (.inl x8), some (.inl x9), o10, o11, o12] [] μ (some (.inl res.1)) res.2) {x3 : Int} {x4 : Int} {x5 : Int} {x7 : Int} {x8 : Int} {x9 : Int} {x10 : Int} {o1 : Option PV} {o2 : Option PV} {o6 : Option PV} {o11 : Option PV} {o12 : Option PV} {μ : Mem} {res : (Int × Mem)} (h : xl_isMixSo_293 K239 x3 x4 x5 x7 x8 x9 x10 μ = some res) : G shX l D ad ca YL_isMixSo 293 [some (.inr 0), o1, o2, some (.inl x3), some (.inl x4), some (.inl x5), o6, some (.inl x7), some (.inl x8), some (.inl x9), some (.inl x10), o11, o12] [] μ (some (.inl res.1)) res.2 := by
  rw [xl_isMixSo_293] at h
  refine G.iload dL_isMixSo_293 rfl ?_
  refine G.if_eq 313 dL_isMixSo_295 rfl (fun c => ?_) (fun c => ?_)
  · replace h := (if_pos c).symm.trans h
    exact eb_xl_isMixSo_313 hK239 h
  · replace h := (if_neg c).symm.trans h
    refine G.aload_n (i := 0) dL_isMixSo_298 rfl rfl ?_
    refine G.iload dL_isMixSo_299 rfl ?_
    refine G.iconst dL_isMixSo_301 ki_3 ?_
    obtain ⟨p17, hv, h⟩ := bd h
    refine G.callV (e_xx_mixOf hv) cs_L_isMixSo_X7_mixOf ck7 shX_0 rfl rfl (Nat.le_of_ble_eq_true rfl) q530 q531 q532 dL_isMixSo_302 ?_
    refine G.iconst dL_isMixSo_305 ki_1 ?_
    refine G.icmp_ne 313 dL_isMixSo_306 rfl (fun c => ?_) (fun c => ?_)
    · replace h := (if_neg c).symm.trans h
      exact eb_xl_isMixSo_313 hK239 h
    · replace h := (if_pos c).symm.trans h
      refine G.iconst dL_isMixSo_309 ki_1 ?_
      refine G.goto 314 dL_isMixSo_310 rfl ?_
      exact eb_xl_isMixSo_314 hK239 h
set_option maxRecDepth 100000 in
theorem eb_xl_isMixSo_270 {K239 : Int → Int → Int → Int → Int → Int → Mem → Option (Int × Mem)} (hK239 : ∀ (x3 : Int) (x4 : Int) (x5 : Int) (x7 : Int) (x8 : Int) (x9 : Int) (o1 : Option PV) (o2 : Option PV) (o6 : Option PV) (o10 : Option PV) (o11 : Option PV) (o12 : Option PV) (μ : Mem) (res : (Int × Mem)), K239 x3 x4 x5 x7 x8 x9 μ = some res → G shX l D ad ca YL_isMixSo 239 [some (.inr 0), o1, o2, some (.inl x3), some (.inl x4), some (.inl x5), o6, some (.inl x7), some (.inl x8), some (.inl x9), o10, o11, o12] [] μ (some (.inl res.1)) res.2) : ∀ (n : Nat) (x3 : Int) (x4 : Int) (x5 : Int) (x7 : Int) (x8 : Int) (x9 : Int) (x10 : Int) (x11 : Int) (x12 : Int) (o1 : Option PV) (o2 : Option PV) (o6 : Option PV) (μ : Mem) (res : (Int × Mem)), xl_isMixSo_270 K239 n x3 x4 x5 x7 x8 x9 x10 x11 x12 μ = some res → G shX l D ad ca YL_isMixSo 270 [some (.inr 0), o1, o2, some (.inl x3), some (.inl x4), some (.inl x5), o6, some (.inl x7), some (.inl x8), some (.inl x9), some (.inl x10), some (.inl x11), some (.inl x12)] [] μ (some (.inl res.1)) res.2 := by
  intro n
  induction n with
  | zero =>
    intro x3 x4 x5 x7 x8 x9 x10 x11 x12 o1 o2 o6 μ res h
    rw [xl_isMixSo_270] at h
    cases h
  | succ n ih =>
    intro x3 x4 x5 x7 x8 x9 x10 x11 x12 o1 o2 o6 μ res h
    rw [xl_isMixSo_270] at h
    refine G.iload dL_isMixSo_270 rfl ?_
    refine G.iload dL_isMixSo_272 rfl ?_
    refine G.icmp_ge 293 dL_isMixSo_274 rfl (fun c => ?_) (fun c => ?_)
    · replace h := (if_pos c).symm.trans h
      exact eb_xl_isMixSo_293 hK239 h
    · replace h := (if_neg c).symm.trans h
      refine G.aload_n (i := 0) dL_isMixSo_277 rfl rfl ?_
      refine G.iload dL_isMixSo_278 rfl ?_
      refine G.iload dL_isMixSo_280 rfl ?_
      obtain ⟨v18, hv, h⟩ := bd h
      refine G.callV (e_xx_together hv) cs_L_isMixSo_X7_together ck7 shX_0 rfl rfl (Nat.le_of_ble_eq_true rfl) q560 q561 q562 dL_isMixSo_282 ?_
      refine G.istore dL_isMixSo_285 (Nat.le_of_ble_eq_true rfl) ?_
      replace h := bnd_mp h
      refine G.iinc dL_isMixSo_287 rfl (Nat.le_of_ble_eq_true rfl) ?_
      refine G.goto 270 dL_isMixSo_290 rfl ?_
      exact ih _ _ _ _ _ _ _ _ _ _ _ _ _ _ h
set_option maxRecDepth 100000 in
theorem eb_xl_isMixSo_239 : ∀ (n : Nat) (x3 : Int) (x4 : Int) (x5 : Int) (x7 : Int) (x8 : Int) (x9 : Int) (o1 : Option PV) (o2 : Option PV) (o6 : Option PV) (o10 : Option PV) (o11 : Option PV) (o12 : Option PV) (μ : Mem) (res : (Int × Mem)), xl_isMixSo_239 n x3 x4 x5 x7 x8 x9 μ = some res → G shX l D ad ca YL_isMixSo 239 [some (.inr 0), o1, o2, some (.inl x3), some (.inl x4), some (.inl x5), o6, some (.inl x7), some (.inl x8), some (.inl x9), o10, o11, o12] [] μ (some (.inl res.1)) res.2 := by
  intro n
  induction n with
  | zero =>
    intro x3 x4 x5 x7 x8 x9 o1 o2 o6 o10 o11 o12 μ res h
    rw [xl_isMixSo_239] at h
    cases h
  | succ n ih =>
    intro x3 x4 x5 x7 x8 x9 o1 o2 o6 o10 o11 o12 μ res h
    rw [xl_isMixSo_239] at h
    refine G.iload dL_isMixSo_239 rfl ?_
    refine G.aload_n (i := 0) dL_isMixSo_241 rfl rfl ?_
    refine G.iconst dL_isMixSo_242 ki_1 ?_
    obtain ⟨p7, hv, h⟩ := bd h
    refine G.callV (e_xx_count hv) cs_L_isMixSo_X7_count ck7 shX_0 rfl rfl (Nat.le_of_ble_eq_true rfl) q264 q265 q266 dL_isMixSo_243 ?_
    refine G.icmp_ge 322 dL_isMixSo_246 rfl (fun c => ?_) (fun c => ?_)
    · replace h := (if_pos c).symm.trans h
      exact eb_xl_isMixSo_322  h
    · replace h := (if_neg c).symm.trans h
      refine G.aload_n (i := 0) dL_isMixSo_249 rfl rfl ?_
      refine G.iload dL_isMixSo_250 rfl ?_
      obtain ⟨v14, hv, h⟩ := bd h
      refine G.callV (e_xx_ruleOf hv) cs_L_isMixSo_X7_ruleOf ck7 shX_0 rfl rfl (Nat.le_of_ble_eq_true rfl) q573 q574 q575 dL_isMixSo_252 ?_
      refine G.istore dL_isMixSo_255 (Nat.le_of_ble_eq_true rfl) ?_
      refine G.iload_n (i := 3) dL_isMixSo_257 rfl rfl ?_
      refine G.iconst dL_isMixSo_258 ki_2 ?_
      refine G.iload dL_isMixSo_259 rfl ?_
      refine G.imul dL_isMixSo_261 ?_
      refine G.ishr dL_isMixSo_262 ?_
      refine G.iconst dL_isMixSo_263 ki_3 ?_
      refine G.iand dL_isMixSo_264 ?_
      replace h := bnd_mp h
      refine G.istore dL_isMixSo_265 (Nat.le_of_ble_eq_true rfl) ?_
      refine G.iconst dL_isMixSo_267 ki_0 ?_
      refine G.istore dL_isMixSo_268 (Nat.le_of_ble_eq_true rfl) ?_
      exact eb_xl_isMixSo_270 ih _ _ _ _ _ _ _ _ _ _ _ _ _ _ _ h
set_option maxRecDepth 100000 in
theorem eb_xl_isMixSo_231 {x1 : Int} {x3 : Int} {x4 : Int} {x5 : Int} {s0 : Int} {o2 : Option PV} {o6 : Option PV} {o7 : Option PV} {o8 : Option PV} {o9 : Option PV} {o10 : Option PV} {o11 : Option PV} {o12 : Option PV} {μ : Mem} {res : (Int × Mem)} (h : xl_isMixSo_231 x1 x3 x4 x5 s0 μ = some res) : G shX l D ad ca YL_isMixSo 231 [some (.inr 0), some (.inl x1), o2, some (.inl x3), some (.inl x4), some (.inl x5), o6, o7, o8, o9, o10, o11, o12] [.inl s0] μ (some (.inl res.1)) res.2 := by
  rw [xl_isMixSo_231] at h
  refine G.istore dL_isMixSo_231 (Nat.le_of_ble_eq_true rfl) ?_
  refine G.iload_n (i := 1) dL_isMixSo_233 rfl rfl ?_
  refine G.istore dL_isMixSo_234 (Nat.le_of_ble_eq_true rfl) ?_
  refine G.iconst dL_isMixSo_236 ki_0 ?_
  refine G.istore dL_isMixSo_237 (Nat.le_of_ble_eq_true rfl) ?_
  exact eb_xl_isMixSo_239  _ _ _ _ _ _ _ _ _ _ _ _ _ _ _ h
set_option maxRecDepth 100000 in
theorem eb_xl_isMixSo_230 {x1 : Int} {x3 : Int} {x4 : Int} {x5 : Int} {o2 : Option PV} {o6 : Option PV} {o7 : Option PV} {o8 : Option PV} {o9 : Option PV} {o10 : Option PV} {o11 : Option PV} {o12 : Option PV} {μ : Mem} {res : (Int × Mem)} (h : xl_isMixSo_230 x1 x3 x4 x5 μ = some res) : G shX l D ad ca YL_isMixSo 230 [some (.inr 0), some (.inl x1), o2, some (.inl x3), some (.inl x4), some (.inl x5), o6, o7, o8, o9, o10, o11, o12] [] μ (some (.inl res.1)) res.2 := by
  rw [xl_isMixSo_230] at h
  refine G.iconst dL_isMixSo_230 ki_0 ?_
  exact eb_xl_isMixSo_231  h
set_option maxRecDepth 100000 in
theorem eb_xl_isMixSo_206 {x1 : Int} {x2 : Int} {x3 : Int} {x4 : Int} {x5 : Int} {x6 : Int} {s0 : Int} {s1 : Int} {o7 : Option PV} {o8 : Option PV} {o9 : Option PV} {o10 : Option PV} {o11 : Option PV} {o12 : Option PV} {μ : Mem} {res : (Int × Mem)} (h : xl_isMixSo_206 x1 x2 x3 x4 x5 x6 s0 s1 μ = some res) : G shX l D ad ca YL_isMixSo 206 [some (.inr 0), some (.inl x1), some (.inl x2), some (.inl x3), some (.inl x4), some (.inl x5), some (.inl x6), o7, o8, o9, o10, o11, o12] [.inl s1, .inl s0] μ (some (.inl res.1)) res.2 := by
  rw [xl_isMixSo_206] at h
  refine G.icmp_ne 230 dL_isMixSo_206 rfl (fun c => ?_) (fun c => ?_)
  · replace h := (if_neg c).symm.trans h
    exact eb_xl_isMixSo_230  h
  · replace h := (if_pos c).symm.trans h
    refine G.aload_n (i := 0) dL_isMixSo_209 rfl rfl ?_
    refine G.iload dL_isMixSo_210 rfl ?_
    refine G.iload_n (i := 1) dL_isMixSo_212 rfl rfl ?_
    refine G.iconst dL_isMixSo_213 ki_1 ?_
    obtain ⟨p24, hv, h⟩ := bd h
    refine G.callV (e_xx_alike hv) cs_L_isMixSo_X7_alike ck7 shX_0 rfl rfl (Nat.le_of_ble_eq_true rfl) q565 q566 q567 dL_isMixSo_214 ?_
    refine G.aload_n (i := 0) dL_isMixSo_217 rfl rfl ?_
    refine G.iload_n (i := 2) dL_isMixSo_218 rfl rfl ?_
    refine G.iconst dL_isMixSo_219 ki_3 ?_
    obtain ⟨p25, hv, h⟩ := bd h
    refine G.callV (e_xx_mixOf hv) cs_L_isMixSo_X7_mixOf ck7 shX_0 rfl rfl (Nat.le_of_ble_eq_true rfl) q530 q531 q532 dL_isMixSo_220 ?_
    refine G.icmp_ne 230 dL_isMixSo_223 rfl (fun c => ?_) (fun c => ?_)
    · replace h := (if_neg c).symm.trans h
      exact eb_xl_isMixSo_230  h
    · replace h := (if_pos c).symm.trans h
      refine G.iconst dL_isMixSo_226 ki_1 ?_
      refine G.goto 231 dL_isMixSo_227 rfl ?_
      exact eb_xl_isMixSo_231  h
set_option maxRecDepth 100000 in
theorem eb_xl_isMixSo_159 {x1 : Int} {x2 : Int} {x3 : Int} {x4 : Int} {x5 : Int} {x6 : Int} {s0 : Int} {o7 : Option PV} {o8 : Option PV} {o9 : Option PV} {o10 : Option PV} {o11 : Option PV} {o12 : Option PV} {μ : Mem} {res : (Int × Mem)} (h : xl_isMixSo_159 x1 x2 x3 x4 x5 x6 s0 μ = some res) : G shX l D ad ca YL_isMixSo 159 [some (.inr 0), some (.inl x1), some (.inl x2), some (.inl x3), some (.inl x4), some (.inl x5), some (.inl x6), o7, o8, o9, o10, o11, o12] [.inl s0] μ (some (.inl res.1)) res.2 := by
  rw [xl_isMixSo_159] at h
  refine G.istore dL_isMixSo_159 (Nat.le_of_ble_eq_true rfl) ?_
  refine G.iload dL_isMixSo_161 rfl ?_
  refine G.if_eq 230 dL_isMixSo_163 rfl (fun c => ?_) (fun c => ?_)
  · replace h := (if_pos c).symm.trans h
    exact eb_xl_isMixSo_230  h
  · replace h := (if_neg c).symm.trans h
    refine G.aload_n (i := 0) dL_isMixSo_166 rfl rfl ?_
    refine G.iload_n (i := 1) dL_isMixSo_167 rfl rfl ?_
    refine G.iload_n (i := 2) dL_isMixSo_168 rfl rfl ?_
    refine G.iconst dL_isMixSo_169 ki_1 ?_
    obtain ⟨p20, hv, h⟩ := bd h
    refine G.callV (e_xx_alike hv) cs_L_isMixSo_X7_alike ck7 shX_0 rfl rfl (Nat.le_of_ble_eq_true rfl) q565 q566 q567 dL_isMixSo_170 ?_
    refine G.aload_n (i := 0) dL_isMixSo_173 rfl rfl ?_
    refine G.iload_n (i := 1) dL_isMixSo_174 rfl rfl ?_
    refine G.iload_n (i := 2) dL_isMixSo_175 rfl rfl ?_
    refine G.iconst dL_isMixSo_176 ki_0 ?_
    obtain ⟨p21, hv, h⟩ := bd h
    refine G.callV (e_xx_alike hv) cs_L_isMixSo_X7_alike ck7 shX_0 rfl rfl (Nat.le_of_ble_eq_true rfl) q565 q566 q567 dL_isMixSo_177 ?_
    refine G.icmp_ne 230 dL_isMixSo_180 rfl (fun c => ?_) (fun c => ?_)
    · replace h := (if_neg c).symm.trans h
      exact eb_xl_isMixSo_230  h
    · replace h := (if_pos c).symm.trans h
      refine G.aload_n (i := 0) dL_isMixSo_183 rfl rfl ?_
      refine G.iload_n (i := 1) dL_isMixSo_184 rfl rfl ?_
      refine G.iload_n (i := 2) dL_isMixSo_185 rfl rfl ?_
      refine G.iconst dL_isMixSo_186 ki_0 ?_
      obtain ⟨p22, hv, h⟩ := bd h
      refine G.callV (e_xx_alike hv) cs_L_isMixSo_X7_alike ck7 shX_0 rfl rfl (Nat.le_of_ble_eq_true rfl) q565 q566 q567 dL_isMixSo_187 ?_
      refine G.aload_n (i := 0) dL_isMixSo_190 rfl rfl ?_
      refine G.iload_n (i := 2) dL_isMixSo_191 rfl rfl ?_
      refine G.iconst dL_isMixSo_192 ki_2 ?_
      obtain ⟨p23, hv, h⟩ := bd h
      refine G.callV (e_xx_mixOf hv) cs_L_isMixSo_X7_mixOf ck7 shX_0 rfl rfl (Nat.le_of_ble_eq_true rfl) q530 q531 q532 dL_isMixSo_193 ?_
      refine G.iload dL_isMixSo_196 rfl ?_
      refine G.icmp_ne 205 dL_isMixSo_198 rfl (fun c => ?_) (fun c => ?_)
      · replace h := (if_neg c).symm.trans h
        refine G.iconst dL_isMixSo_205 ki_0 ?_
        exact eb_xl_isMixSo_206  h
      · replace h := (if_pos c).symm.trans h
        refine G.iconst dL_isMixSo_201 ki_1 ?_
        refine G.goto 206 dL_isMixSo_202 rfl ?_
        exact eb_xl_isMixSo_206  h
set_option maxRecDepth 100000 in
theorem eb_xl_isMixSo_158 {x1 : Int} {x2 : Int} {x3 : Int} {x4 : Int} {x5 : Int} {x6 : Int} {o7 : Option PV} {o8 : Option PV} {o9 : Option PV} {o10 : Option PV} {o11 : Option PV} {o12 : Option PV} {μ : Mem} {res : (Int × Mem)} (h : xl_isMixSo_158 x1 x2 x3 x4 x5 x6 μ = some res) : G shX l D ad ca YL_isMixSo 158 [some (.inr 0), some (.inl x1), some (.inl x2), some (.inl x3), some (.inl x4), some (.inl x5), some (.inl x6), o7, o8, o9, o10, o11, o12] [] μ (some (.inl res.1)) res.2 := by
  rw [xl_isMixSo_158] at h
  refine G.iconst dL_isMixSo_158 ki_0 ?_
  exact eb_xl_isMixSo_159  h
set_option maxRecDepth 100000 in
theorem e_xl_isMixSo {a1 : Int} {a2 : Int} {a3 : Int} {μ : Mem} {res : (Int × Mem)} (h : xl_isMixSo a1 a2 a3 μ = some res) : GM shX l D ad ca YL_isMixSo [.inr 0, .inl a1, .inl a2, .inl a3] μ (some (.inl res.1)) res.2 := by
  refine GM.of (L := [some (.inr 0), some (.inl a1), some (.inl a2), some (.inl a3), none, none, none, none, none, none, none, none, none]) (by decide +kernel) rfl (Nat.le_of_ble_eq_true rfl) ?_
  rw [xl_isMixSo] at h
  refine G.aload_n (i := 0) dL_isMixSo_0 rfl rfl ?_
  refine G.iload_n (i := 1) dL_isMixSo_1 rfl rfl ?_
  refine G.iconst dL_isMixSo_2 ki_2 ?_
  obtain ⟨p1, hv, h⟩ := bd h
  refine G.callV (e_xx_mixOf hv) cs_L_isMixSo_X7_mixOf ck7 shX_0 rfl rfl (Nat.le_of_ble_eq_true rfl) q530 q531 q532 dL_isMixSo_3 ?_
  replace h := bnd_mp h
  refine G.istore dL_isMixSo_6 (Nat.le_of_ble_eq_true rfl) ?_
  refine G.aload_n (i := 0) dL_isMixSo_8 rfl rfl ?_
  refine G.iload_n (i := 1) dL_isMixSo_9 rfl rfl ?_
  refine G.iconst dL_isMixSo_10 ki_4 ?_
  obtain ⟨p3, hv, h⟩ := bd h
  refine G.callV (e_xx_mixOf hv) cs_L_isMixSo_X7_mixOf ck7 shX_0 rfl rfl (Nat.le_of_ble_eq_true rfl) q530 q531 q532 dL_isMixSo_11 ?_
  replace h := bnd_mp h
  refine G.istore dL_isMixSo_14 (Nat.le_of_ble_eq_true rfl) ?_
  refine G.aload_n (i := 0) dL_isMixSo_16 rfl rfl ?_
  refine G.iload_n (i := 1) dL_isMixSo_17 rfl rfl ?_
  refine G.iload_n (i := 2) dL_isMixSo_18 rfl rfl ?_
  obtain ⟨v5, hv, h⟩ := bd h
  refine G.callV (e_xx_together hv) cs_L_isMixSo_X7_together ck7 shX_0 rfl rfl (Nat.le_of_ble_eq_true rfl) q560 q561 q562 dL_isMixSo_19 ?_
  refine G.istore dL_isMixSo_22 (Nat.le_of_ble_eq_true rfl) ?_
  refine G.aload_n (i := 0) dL_isMixSo_24 rfl rfl ?_
  refine G.iload_n (i := 2) dL_isMixSo_25 rfl rfl ?_
  refine G.iload_n (i := 1) dL_isMixSo_26 rfl rfl ?_
  obtain ⟨v6, hv, h⟩ := bd h
  refine G.callV (e_xx_together hv) cs_L_isMixSo_X7_together ck7 shX_0 rfl rfl (Nat.le_of_ble_eq_true rfl) q560 q561 q562 dL_isMixSo_27 ?_
  refine G.iload dL_isMixSo_30 rfl ?_
  refine G.icmp_ne 158 dL_isMixSo_32 rfl (fun c => ?_) (fun c => ?_)
  · replace h := (if_neg c).symm.trans h
    exact eb_xl_isMixSo_158  h
  · replace h := (if_pos c).symm.trans h
    refine G.aload_n (i := 0) dL_isMixSo_35 rfl rfl ?_
    refine G.iload_n (i := 1) dL_isMixSo_36 rfl rfl ?_
    refine G.aload_n (i := 0) dL_isMixSo_37 rfl rfl ?_
    refine G.iload_n (i := 1) dL_isMixSo_38 rfl rfl ?_
    refine G.iconst dL_isMixSo_39 ki_5 ?_
    obtain ⟨p26, hv, h⟩ := bd h
    refine G.callV (e_xx_mixOf hv) cs_L_isMixSo_X7_mixOf ck7 shX_0 rfl rfl (Nat.le_of_ble_eq_true rfl) q530 q531 q532 dL_isMixSo_40 ?_
    obtain ⟨v27, hv, h⟩ := bd h
    refine G.callV (e_xx_together hv) cs_L_isMixSo_X7_together ck7 shX_0 rfl rfl (Nat.le_of_ble_eq_true rfl) q560 q561 q562 dL_isMixSo_43 ?_
    refine G.if_ne 158 dL_isMixSo_46 rfl (fun c => ?_) (fun c => ?_)
    · replace h := (if_neg c).symm.trans h
      exact eb_xl_isMixSo_158  h
    · replace h := (if_pos c).symm.trans h
      refine G.aload_n (i := 0) dL_isMixSo_49 rfl rfl ?_
      refine G.aload_n (i := 0) dL_isMixSo_50 rfl rfl ?_
      refine G.iload_n (i := 1) dL_isMixSo_51 rfl rfl ?_
      refine G.iload_n (i := 1) dL_isMixSo_52 rfl rfl ?_
      obtain ⟨v28, hv, h⟩ := bd h
      refine G.callV (e_xx_together hv) cs_L_isMixSo_X7_together ck7 shX_0 rfl rfl (Nat.le_of_ble_eq_true rfl) q560 q561 q562 dL_isMixSo_53 ?_
      refine G.iload_n (i := 1) dL_isMixSo_56 rfl rfl ?_
      obtain ⟨v29, hv, h⟩ := bd h
      refine G.callV (e_xx_together hv) cs_L_isMixSo_X7_together ck7 shX_0 rfl rfl (Nat.le_of_ble_eq_true rfl) q560 q561 q562 dL_isMixSo_57 ?_
      refine G.if_ne 158 dL_isMixSo_60 rfl (fun c => ?_) (fun c => ?_)
      · replace h := (if_neg c).symm.trans h
        exact eb_xl_isMixSo_158  h
      · replace h := (if_pos c).symm.trans h
        refine G.iload dL_isMixSo_63 rfl ?_
        refine G.iload_n (i := 1) dL_isMixSo_65 rfl rfl ?_
        refine G.icmp_gt 158 dL_isMixSo_66 rfl (fun c => ?_) (fun c => ?_)
        · replace h := (if_pos c).symm.trans h
          exact eb_xl_isMixSo_158  h
        · replace h := (if_neg c).symm.trans h
          refine G.aload_n (i := 0) dL_isMixSo_69 rfl rfl ?_
          refine G.iload dL_isMixSo_70 rfl ?_
          refine G.iconst dL_isMixSo_72 ki_2 ?_
          obtain ⟨p30, hv, h⟩ := bd h
          refine G.callV (e_xx_mixOf hv) cs_L_isMixSo_X7_mixOf ck7 shX_0 rfl rfl (Nat.le_of_ble_eq_true rfl) q530 q531 q532 dL_isMixSo_73 ?_
          refine G.iload dL_isMixSo_76 rfl ?_
          refine G.icmp_ne 158 dL_isMixSo_78 rfl (fun c => ?_) (fun c => ?_)
          · replace h := (if_neg c).symm.trans h
            exact eb_xl_isMixSo_158  h
          · replace h := (if_pos c).symm.trans h
            refine G.aload_n (i := 0) dL_isMixSo_81 rfl rfl ?_
            refine G.iload_n (i := 1) dL_isMixSo_82 rfl rfl ?_
            refine G.iload dL_isMixSo_83 rfl ?_
            refine G.iconst dL_isMixSo_85 ki_1 ?_
            obtain ⟨p31, hv, h⟩ := bd h
            refine G.callV (e_xx_alike hv) cs_L_isMixSo_X7_alike ck7 shX_0 rfl rfl (Nat.le_of_ble_eq_true rfl) q565 q566 q567 dL_isMixSo_86 ?_
            refine G.iconst dL_isMixSo_89 ki_1 ?_
            refine G.icmp_ne 158 dL_isMixSo_90 rfl (fun c => ?_) (fun c => ?_)
            · replace h := (if_neg c).symm.trans h
              exact eb_xl_isMixSo_158  h
            · replace h := (if_pos c).symm.trans h
              refine G.aload_n (i := 0) dL_isMixSo_93 rfl rfl ?_
              refine G.iload_n (i := 1) dL_isMixSo_94 rfl rfl ?_
              refine G.iload dL_isMixSo_95 rfl ?_
              refine G.iconst dL_isMixSo_97 ki_1 ?_
              obtain ⟨p32, hv, h⟩ := bd h
              refine G.callV (e_xx_alike hv) cs_L_isMixSo_X7_alike ck7 shX_0 rfl rfl (Nat.le_of_ble_eq_true rfl) q565 q566 q567 dL_isMixSo_98 ?_
              refine G.iconst dL_isMixSo_101 ki_1 ?_
              refine G.icmp_ne 158 dL_isMixSo_102 rfl (fun c => ?_) (fun c => ?_)
              · replace h := (if_neg c).symm.trans h
                exact eb_xl_isMixSo_158  h
              · replace h := (if_pos c).symm.trans h
                refine G.aload_n (i := 0) dL_isMixSo_105 rfl rfl ?_
                refine G.iload dL_isMixSo_106 rfl ?_
                refine G.iconst dL_isMixSo_108 ki_1 ?_
                obtain ⟨p33, hv, h⟩ := bd h
                refine G.callV (e_xx_mixOf hv) cs_L_isMixSo_X7_mixOf ck7 shX_0 rfl rfl (Nat.le_of_ble_eq_true rfl) q530 q531 q532 dL_isMixSo_109 ?_
                refine G.aload_n (i := 0) dL_isMixSo_112 rfl rfl ?_
                refine G.iload_n (i := 1) dL_isMixSo_113 rfl rfl ?_
                refine G.iconst dL_isMixSo_114 ki_1 ?_
                obtain ⟨p34, hv, h⟩ := bd h
                refine G.callV (e_xx_mixOf hv) cs_L_isMixSo_X7_mixOf ck7 shX_0 rfl rfl (Nat.le_of_ble_eq_true rfl) q530 q531 q532 dL_isMixSo_115 ?_
                refine G.icmp_gt 158 dL_isMixSo_118 rfl (fun c => ?_) (fun c => ?_)
                · replace h := (if_pos c).symm.trans h
                  exact eb_xl_isMixSo_158  h
                · replace h := (if_neg c).symm.trans h
                  refine G.aload_n (i := 0) dL_isMixSo_121 rfl rfl ?_
                  refine G.iload dL_isMixSo_122 rfl ?_
                  refine G.iconst dL_isMixSo_124 ki_1 ?_
                  obtain ⟨p35, hv, h⟩ := bd h
                  refine G.callV (e_xx_mixOf hv) cs_L_isMixSo_X7_mixOf ck7 shX_0 rfl rfl (Nat.le_of_ble_eq_true rfl) q530 q531 q532 dL_isMixSo_125 ?_
                  refine G.aload_n (i := 0) dL_isMixSo_128 rfl rfl ?_
                  refine G.iload dL_isMixSo_129 rfl ?_
                  refine G.iconst dL_isMixSo_131 ki_1 ?_
                  obtain ⟨p36, hv, h⟩ := bd h
                  refine G.callV (e_xx_mixOf hv) cs_L_isMixSo_X7_mixOf ck7 shX_0 rfl rfl (Nat.le_of_ble_eq_true rfl) q530 q531 q532 dL_isMixSo_132 ?_
                  refine G.icmp_gt 158 dL_isMixSo_135 rfl (fun c => ?_) (fun c => ?_)
                  · replace h := (if_pos c).symm.trans h
                    exact eb_xl_isMixSo_158  h
                  · replace h := (if_neg c).symm.trans h
                    refine G.aload_n (i := 0) dL_isMixSo_138 rfl rfl ?_
                    refine G.iload_n (i := 1) dL_isMixSo_139 rfl rfl ?_
                    refine G.iconst dL_isMixSo_140 ki_3 ?_
                    obtain ⟨p37, hv, h⟩ := bd h
                    refine G.callV (e_xx_mixOf hv) cs_L_isMixSo_X7_mixOf ck7 shX_0 rfl rfl (Nat.le_of_ble_eq_true rfl) q530 q531 q532 dL_isMixSo_141 ?_
                    refine G.aload_n (i := 0) dL_isMixSo_144 rfl rfl ?_
                    refine G.iload_n (i := 1) dL_isMixSo_145 rfl rfl ?_
                    refine G.iconst dL_isMixSo_146 ki_0 ?_
                    refine G.iconst dL_isMixSo_147 ki_1 ?_
                    obtain ⟨p38, hv, h⟩ := bd h
                    refine G.callV (e_xx_alike hv) cs_L_isMixSo_X7_alike ck7 shX_0 rfl rfl (Nat.le_of_ble_eq_true rfl) q565 q566 q567 dL_isMixSo_148 ?_
                    refine G.icmp_ne 158 dL_isMixSo_151 rfl (fun c => ?_) (fun c => ?_)
                    · replace h := (if_neg c).symm.trans h
                      exact eb_xl_isMixSo_158  h
                    · replace h := (if_pos c).symm.trans h
                      refine G.iconst dL_isMixSo_154 ki_1 ?_
                      refine G.goto 159 dL_isMixSo_155 rfl ?_
                      exact eb_xl_isMixSo_159  h
set_option maxRecDepth 100000 in
theorem eb_xl_size_24 {x1 : Int} {o0 : Option PV} {o2 : Option PV} {μ : Mem} {res : Int} (h : xl_size_24 x1 = some res) : G shX l D ad ca YL_size 24 [o0, some (.inl x1), o2] [] μ (some (.inl res)) μ := by
  rw [xl_size_24] at h
  refine G.iload_n (i := 1) dL_size_24 rfl rfl ?_
  cases h
  exact G.iret dL_size_25 rfl
set_option maxRecDepth 100000 in
theorem eb_xl_size_4 : ∀ (n : Nat) (x0 : Int) (x1 : Int) (x2 : Int) (μ : Mem) (res : Int), xl_size_4 n x0 x1 x2 = some res → G shX l D ad ca YL_size 4 [some (.inl x0), some (.inl x1), some (.inl x2)] [] μ (some (.inl res)) μ := by
  intro n
  induction n with
  | zero =>
    intro x0 x1 x2 μ res h
    rw [xl_size_4] at h
    cases h
  | succ n ih =>
    intro x0 x1 x2 μ res h
    rw [xl_size_4] at h
    refine G.iload_n (i := 2) dL_size_4 rfl rfl ?_
    refine G.bipush dL_size_5 kb_12 ?_
    refine G.icmp_ge 24 dL_size_7 rfl (fun c => ?_) (fun c => ?_)
    · replace h := (if_pos c).symm.trans h
      exact eb_xl_size_24  h
    · replace h := (if_neg c).symm.trans h
      refine G.iload_n (i := 1) dL_size_10 rfl rfl ?_
      refine G.iload_n (i := 0) dL_size_11 rfl rfl ?_
      refine G.iload_n (i := 2) dL_size_12 rfl rfl ?_
      refine G.ishr dL_size_13 ?_
      refine G.iconst dL_size_14 ki_1 ?_
      refine G.iand dL_size_15 ?_
      refine G.iadd dL_size_16 ?_
      replace h := bnd_mp h
      refine G.istore_n (i := 1) dL_size_17 rfl (Nat.le_of_ble_eq_true rfl) ?_
      replace h := bnd_mp h
      refine G.iinc dL_size_18 rfl (Nat.le_of_ble_eq_true rfl) ?_
      refine G.goto 4 dL_size_21 rfl ?_
      exact ih _ _ _ _ _ h
set_option maxRecDepth 100000 in
theorem e_xl_size {a1 : Int} {μ : Mem} {res : Int} (h : xl_size a1 = some res) : GM shX l D ad ca YL_size [.inl a1] μ (some (.inl res)) μ := by
  refine GM.of (L := [some (.inl a1), none, none]) (by decide +kernel) rfl (Nat.le_of_ble_eq_true rfl) ?_
  rw [xl_size] at h
  refine G.iconst dL_size_0 ki_0 ?_
  refine G.istore_n (i := 1) dL_size_1 rfl (Nat.le_of_ble_eq_true rfl) ?_
  refine G.iconst dL_size_2 ki_0 ?_
  refine G.istore_n (i := 2) dL_size_3 rfl (Nat.le_of_ble_eq_true rfl) ?_
  exact eb_xl_size_4  _ _ _ _ _ _ h
set_option maxRecDepth 100000 in
theorem eb_xl_areFewestSo_255 {s0 : Int} {o1 : Option PV} {o2 : Option PV} {o3 : Option PV} {o4 : Option PV} {o5 : Option PV} {o6 : Option PV} {o7 : Option PV} {o8 : Option PV} {o9 : Option PV} {o10 : Option PV} {o11 : Option PV} {μ : Mem} {res : (Int × Mem)} (h : xl_areFewestSo_255 s0 μ = some res) : G shX l D ad ca YL_areFewestSo 255 [some (.inr 0), o1, o2, o3, o4, o5, o6, o7, o8, o9, o10, o11] [.inl s0] μ (some (.inl res.1)) res.2 := by
  rw [xl_areFewestSo_255] at h
  obtain ⟨hz, h⟩ := ite_yn h
  cases h
  exact G.zret .boolean dL_areFewestSo_255 rfl (nar_z hz)
set_option maxRecDepth 100000 in
theorem eb_xl_areFewestSo_254 {o1 : Option PV} {o2 : Option PV} {o3 : Option PV} {o4 : Option PV} {o5 : Option PV} {o6 : Option PV} {o7 : Option PV} {o8 : Option PV} {o9 : Option PV} {o10 : Option PV} {o11 : Option PV} {μ : Mem} {res : (Int × Mem)} (h : xl_areFewestSo_254 μ = some res) : G shX l D ad ca YL_areFewestSo 254 [some (.inr 0), o1, o2, o3, o4, o5, o6, o7, o8, o9, o10, o11] [] μ (some (.inl res.1)) res.2 := by
  rw [xl_areFewestSo_254] at h
  refine G.iconst dL_areFewestSo_254 ki_0 ?_
  exact eb_xl_areFewestSo_255  h
set_option maxRecDepth 100000 in
theorem eb_xl_areFewestSo_238 {o1 : Option PV} {o2 : Option PV} {o3 : Option PV} {o4 : Option PV} {o5 : Option PV} {o6 : Option PV} {o7 : Option PV} {o8 : Option PV} {o9 : Option PV} {o10 : Option PV} {o11 : Option PV} {μ : Mem} {res : (Int × Mem)} (h : xl_areFewestSo_238 μ = some res) : G shX l D ad ca YL_areFewestSo 238 [some (.inr 0), o1, o2, o3, o4, o5, o6, o7, o8, o9, o10, o11] [] μ (some (.inl res.1)) res.2 := by
  rw [xl_areFewestSo_238] at h
  refine G.aload_n (i := 0) dL_areFewestSo_238 rfl rfl ?_
  obtain ⟨p10, hv, h⟩ := bd h
  refine G.callV (e_xx_makes hv) cs_L_areFewestSo_X7_makes ck7 shX_0 rfl rfl (Nat.le_of_ble_eq_true rfl) q604 q605 q606 dL_areFewestSo_239 ?_
  refine G.aload_n (i := 0) dL_areFewestSo_242 rfl rfl ?_
  refine G.iconst dL_areFewestSo_243 ki_4 ?_
  obtain ⟨p11, hv, h⟩ := bd h
  refine G.callV (e_xx_count hv) cs_L_areFewestSo_X7_count ck7 shX_0 rfl rfl (Nat.le_of_ble_eq_true rfl) q264 q265 q266 dL_areFewestSo_244 ?_
  refine G.icmp_gt 254 dL_areFewestSo_247 rfl (fun c => ?_) (fun c => ?_)
  · replace h := (if_pos c).symm.trans h
    exact eb_xl_areFewestSo_254  h
  · replace h := (if_neg c).symm.trans h
    refine G.iconst dL_areFewestSo_250 ki_1 ?_
    refine G.goto 255 dL_areFewestSo_251 rfl ?_
    exact eb_xl_areFewestSo_255  h
set_option maxRecDepth 100000 in
theorem eb_xl_areFewestSo_215 {x2 : Int} {x7 : Int} {o1 : Option PV} {o3 : Option PV} {o4 : Option PV} {o5 : Option PV} {o6 : Option PV} {o8 : Option PV} {o9 : Option PV} {o10 : Option PV} {o11 : Option PV} {μ : Mem} {res : (Int × Mem)} (h : xl_areFewestSo_215 x2 x7 μ = some res) : G shX l D ad ca YL_areFewestSo 215 [some (.inr 0), o1, some (.inl x2), o3, o4, o5, o6, some (.inl x7), o8, o9, o10, o11] [] μ (some (.inl res.1)) res.2 := by
  rw [xl_areFewestSo_215] at h
  refine G.aload_n (i := 0) dL_areFewestSo_215 rfl rfl ?_
  obtain ⟨p9, hv, h⟩ := bd h
  refine G.callV (e_xx_makes hv) cs_L_areFewestSo_X7_makes ck7 shX_0 rfl rfl (Nat.le_of_ble_eq_true rfl) q604 q605 q606 dL_areFewestSo_216 ?_
  refine G.iconst dL_areFewestSo_219 ki_1 ?_
  refine G.icmp_lt 254 dL_areFewestSo_220 rfl (fun c => ?_) (fun c => ?_)
  · replace h := (if_pos c).symm.trans h
    exact eb_xl_areFewestSo_254  h
  · replace h := (if_neg c).symm.trans h
    refine G.iload_n (i := 2) dL_areFewestSo_223 rfl rfl ?_
    refine G.bipush dL_areFewestSo_224 kb_7 ?_
    refine G.icmp_gt 238 dL_areFewestSo_226 rfl (fun c => ?_) (fun c => ?_)
    · replace h := (if_pos c).symm.trans h
      exact eb_xl_areFewestSo_238  h
    · replace h := (if_neg c).symm.trans h
      refine G.aload_n (i := 0) dL_areFewestSo_229 rfl rfl ?_
      obtain ⟨p12, hv, h⟩ := bd h
      refine G.callV (e_xx_makes hv) cs_L_areFewestSo_X7_makes ck7 shX_0 rfl rfl (Nat.le_of_ble_eq_true rfl) q604 q605 q606 dL_areFewestSo_230 ?_
      refine G.iload dL_areFewestSo_233 rfl ?_
      refine G.icmp_gt 254 dL_areFewestSo_235 rfl (fun c => ?_) (fun c => ?_)
      · replace h := (if_pos c).symm.trans h
        exact eb_xl_areFewestSo_254  h
      · replace h := (if_neg c).symm.trans h
        exact eb_xl_areFewestSo_238  h
set_option maxRecDepth 100000 in
theorem eb_xl_areFewestSo_212 {x2 : Int} {x7 : Int} {s0 : Int} {s1 : Int} {o1 : Option PV} {o3 : Option PV} {o4 : Option PV} {o5 : Option PV} {o6 : Option PV} {o8 : Option PV} {o9 : Option PV} {o10 : Option PV} {o11 : Option PV} {μ : Mem} {res : (Int × Mem)} (h : xl_areFewestSo_212 x2 x7 s0 s1 μ = some res) : G shX l D ad ca YL_areFewestSo 212 [some (.inr 0), o1, some (.inl x2), o3, o4, o5, o6, some (.inl x7), o8, o9, o10, o11] [.inl s1, .inl s0] μ (some (.inl res.1)) res.2 := by
  rw [xl_areFewestSo_212] at h
  refine G.icmp_ne 254 dL_areFewestSo_212 rfl (fun c => ?_) (fun c => ?_)
  · replace h := (if_neg c).symm.trans h
    exact eb_xl_areFewestSo_254  h
  · replace h := (if_pos c).symm.trans h
    exact eb_xl_areFewestSo_215  h
set_option maxRecDepth 100000 in
theorem eb_xl_areFewestSo_193 {x2 : Int} {x3 : Int} {x6 : Int} {x7 : Int} {s0 : Int} {s1 : Int} {o1 : Option PV} {o4 : Option PV} {o5 : Option PV} {o8 : Option PV} {o9 : Option PV} {o10 : Option PV} {o11 : Option PV} {μ : Mem} {res : (Int × Mem)} (h : xl_areFewestSo_193 x2 x3 x6 x7 s0 s1 μ = some res) : G shX l D ad ca YL_areFewestSo 193 [some (.inr 0), o1, some (.inl x2), some (.inl x3), o4, o5, some (.inl x6), some (.inl x7), o8, o9, o10, o11] [.inl s1, .inl s0] μ (some (.inl res.1)) res.2 := by
  rw [xl_areFewestSo_193] at h
  refine G.icmp_ne 254 dL_areFewestSo_193 rfl (fun c => ?_) (fun c => ?_)
  · replace h := (if_neg c).symm.trans h
    exact eb_xl_areFewestSo_254  h
  · replace h := (if_pos c).symm.trans h
    refine G.iload_n (i := 3) dL_areFewestSo_196 rfl rfl ?_
    refine G.iload dL_areFewestSo_197 rfl ?_
    refine G.if_ge 207 dL_areFewestSo_199 rfl (fun c => ?_) (fun c => ?_)
    · replace h := (if_pos c).symm.trans h
      refine G.iload dL_areFewestSo_207 rfl ?_
      obtain ⟨v13, hv, h⟩ := bd h
      refine G.callS (e_xl_size hv) cs_L_areFewestSo_L_size rfl (Nat.le_of_ble_eq_true rfl) q601 q602 dL_areFewestSo_209 ?_
      exact eb_xl_areFewestSo_212  h
    · replace h := (if_neg c).symm.trans h
      refine G.bipush dL_areFewestSo_202 kb_m5 ?_
      refine G.goto 212 dL_areFewestSo_204 rfl ?_
      exact eb_xl_areFewestSo_212  h
set_option maxRecDepth 100000 in
theorem eb_xl_areFewestSo_168 {x2 : Int} {x3 : Int} {x4 : Int} {x6 : Int} {x7 : Int} {x8 : Int} {o1 : Option PV} {o5 : Option PV} {o9 : Option PV} {o10 : Option PV} {o11 : Option PV} {μ : Mem} {res : (Int × Mem)} (h : xl_areFewestSo_168 x2 x3 x4 x6 x7 x8 μ = some res) : G shX l D ad ca YL_areFewestSo 168 [some (.inr 0), o1, some (.inl x2), some (.inl x3), some (.inl x4), o5, some (.inl x6), some (.inl x7), some (.inl x8), o9, o10, o11] [] μ (some (.inl res.1)) res.2 := by
  rw [xl_areFewestSo_168] at h
  refine G.iload dL_areFewestSo_168 rfl ?_
  refine G.if_eq 254 dL_areFewestSo_170 rfl (fun c => ?_) (fun c => ?_)
  · replace h := (if_pos c).symm.trans h
    exact eb_xl_areFewestSo_254  h
  · replace h := (if_neg c).symm.trans h
    refine G.iload_n (i := 2) dL_areFewestSo_173 rfl rfl ?_
    refine G.bipush dL_areFewestSo_174 kb_7 ?_
    refine G.icmp_gt 215 dL_areFewestSo_176 rfl (fun c => ?_) (fun c => ?_)
    · replace h := (if_pos c).symm.trans h
      exact eb_xl_areFewestSo_215  h
    · replace h := (if_neg c).symm.trans h
      refine G.iload dL_areFewestSo_179 rfl ?_
      refine G.iload dL_areFewestSo_181 rfl ?_
      refine G.if_ge 191 dL_areFewestSo_183 rfl (fun c => ?_) (fun c => ?_)
      · replace h := (if_pos c).symm.trans h
        refine G.iload dL_areFewestSo_191 rfl ?_
        exact eb_xl_areFewestSo_193  h
      · replace h := (if_neg c).symm.trans h
        refine G.bipush dL_areFewestSo_186 kb_m5 ?_
        refine G.goto 193 dL_areFewestSo_188 rfl ?_
        exact eb_xl_areFewestSo_193  h
set_option maxRecDepth 100000 in
theorem eb_xl_areFewestSo_157 {K41 : Int → Int → Int → Int → Int → Int → Int → Int → Mem → Option (Int × Mem)} (hK41 : ∀ (x2 : Int) (x3 : Int) (x4 : Int) (x5 : Int) (x6 : Int) (x7 : Int) (x8 : Int) (x9 : Int) (o1 : Option PV) (o10 : Option PV) (o11 : Option PV) (μ : Mem) (res : (Int × Mem)), K41 x2 x3 x4 x5 x6 x7 x8 x9 μ = some res → G shX l D ad ca YL_areFewestSo 41 [some (.inr 0), o1, some (.inl x2), some (.inl x3), some (.inl x4), some (.inl x5), some (.inl x6), some (.inl x7), some (.inl x8), some (.inl x9), o10, o11] [] μ (some (.inl res.1)) res.2) {x2 : Int} {x3 : Int} {x4 : Int} {x5 : Int} {x7 : Int} {x8 : Int} {x9 : Int} {s0 : Int} {o1 : Option PV} {o6 : Option PV} {o10 : Option PV} {o11 : Option PV} {μ : Mem} {res : (Int × Mem)} (h : xl_areFewestSo_157 K41 x2 x3 x4 x5 x7 x8 x9 s0 μ = some res) : G shX l D ad ca YL_areFewestSo 157 [some (.inr 0), o1, some (.inl x2), some (.inl x3), some (.inl x4), some (.inl x5), o6, some (.inl x7), some (.inl x8), some (.inl x9), o10, o11] [.inl s0] μ (some (.inl res.1)) res.2 := by
  rw [xl_areFewestSo_157] at h
  refine G.istore dL_areFewestSo_157 (Nat.le_of_ble_eq_true rfl) ?_
  replace h := bnd_mp h
  refine G.iinc dL_areFewestSo_159 rfl (Nat.le_of_ble_eq_true rfl) ?_
  replace h := bnd_mp h
  refine G.iinc dL_areFewestSo_162 rfl (Nat.le_of_ble_eq_true rfl) ?_
  refine G.goto 41 dL_areFewestSo_165 rfl ?_
  exact hK41 _ _ _ _ _ _ _ _ _ _ _ _ _ h
set_option maxRecDepth 100000 in
theorem eb_xl_areFewestSo_155 {K41 : Int → Int → Int → Int → Int → Int → Int → Int → Mem → Option (Int × Mem)} (hK41 : ∀ (x2 : Int) (x3 : Int) (x4 : Int) (x5 : Int) (x6 : Int) (x7 : Int) (x8 : Int) (x9 : Int) (o1 : Option PV) (o10 : Option PV) (o11 : Option PV) (μ : Mem) (res : (Int × Mem)), K41 x2 x3 x4 x5 x6 x7 x8 x9 μ = some res → G shX l D ad ca YL_areFewestSo 41 [some (.inr 0), o1, some (.inl x2), some (.inl x3), some (.inl x4), some (.inl x5), some (.inl x6), some (.inl x7), some (.inl x8), some (.inl x9), o10, o11] [] μ (some (.inl res.1)) res.2) {x2 : Int} {x3 : Int} {x4 : Int} {x5 : Int} {x6 : Int} {x7 : Int} {x8 : Int} {x9 : Int} {o1 : Option PV} {o10 : Option PV} {o11 : Option PV} {μ : Mem} {res : (Int × Mem)} (h : xl_areFewestSo_155 K41 x2 x3 x4 x5 x6 x7 x8 x9 μ = some res) : G shX l D ad ca YL_areFewestSo 155 [some (.inr 0), o1, some (.inl x2), some (.inl x3), some (.inl x4), some (.inl x5), some (.inl x6), some (.inl x7), some (.inl x8), some (.inl x9), o10, o11] [] μ (some (.inl res.1)) res.2 := by
  rw [xl_areFewestSo_155] at h
  refine G.iload dL_areFewestSo_155 rfl ?_
  exact eb_xl_areFewestSo_157 hK41 h
set_option maxRecDepth 100000 in
theorem eb_xl_areFewestSo_150 {K41 : Int → Int → Int → Int → Int → Int → Int → Int → Mem → Option (Int × Mem)} (hK41 : ∀ (x2 : Int) (x3 : Int) (x4 : Int) (x5 : Int) (x6 : Int) (x7 : Int) (x8 : Int) (x9 : Int) (o1 : Option PV) (o10 : Option PV) (o11 : Option PV) (μ : Mem) (res : (Int × Mem)), K41 x2 x3 x4 x5 x6 x7 x8 x9 μ = some res → G shX l D ad ca YL_areFewestSo 41 [some (.inr 0), o1, some (.inl x2), some (.inl x3), some (.inl x4), some (.inl x5), some (.inl x6), some (.inl x7), some (.inl x8), some (.inl x9), o10, o11] [] μ (some (.inl res.1)) res.2) {x2 : Int} {x3 : Int} {x4 : Int} {x5 : Int} {x7 : Int} {x8 : Int} {x9 : Int} {o1 : Option PV} {o6 : Option PV} {o10 : Option PV} {o11 : Option PV} {μ : Mem} {res : (Int × Mem)} (h : xl_areFewestSo_150 K41 x2 x3 x4 x5 x7 x8 x9 μ = some res) : G shX l D ad ca YL_areFewestSo 150 [some (.inr 0), o1, some (.inl x2), some (.inl x3), some (.inl x4), some (.inl x5), o6, some (.inl x7), some (.inl x8), some (.inl x9), o10, o11] [] μ (some (.inl res.1)) res.2 := by
  rw [xl_areFewestSo_150] at h
  refine G.iload dL_areFewestSo_150 rfl ?_
  refine G.goto 157 dL_areFewestSo_152 rfl ?_
  exact eb_xl_areFewestSo_157 hK41 h
set_option maxRecDepth 100000 in
theorem eb_xl_areFewestSo_125 {K41 : Int → Int → Int → Int → Int → Int → Int → Int → Mem → Option (Int × Mem)} (hK41 : ∀ (x2 : Int) (x3 : Int) (x4 : Int) (x5 : Int) (x6 : Int) (x7 : Int) (x8 : Int) (x9 : Int) (o1 : Option PV) (o10 : Option PV) (o11 : Option PV) (μ : Mem) (res : (Int × Mem)), K41 x2 x3 x4 x5 x6 x7 x8 x9 μ = some res → G shX l D ad ca YL_areFewestSo 41 [some (.inr 0), o1, some (.inl x2), some (.inl x3), some (.inl x4), some (.inl x5), some (.inl x6), some (.inl x7), some (.inl x8), some (.inl x9), o10, o11] [] μ (some (.inl res.1)) res.2) {x2 : Int} {x3 : Int} {x4 : Int} {x5 : Int} {x6 : Int} {x7 : Int} {x8 : Int} {x9 : Int} {s0 : Int} {o1 : Option PV} {o10 : Option PV} {o11 : Option PV} {μ : Mem} {res : (Int × Mem)} (h : xl_areFewestSo_125 K41 x2 x3 x4 x5 x6 x7 x8 x9 s0 μ = some res) : G shX l D ad ca YL_areFewestSo 125 [some (.inr 0), o1, some (.inl x2), some (.inl x3), some (.inl x4), some (.inl x5), some (.inl x6), some (.inl x7), some (.inl x8), some (.inl x9), o10, o11] [.inl s0] μ (some (.inl res.1)) res.2 := by
  rw [xl_areFewestSo_125] at h
  refine G.istore dL_areFewestSo_125 (Nat.le_of_ble_eq_true rfl) ?_
  refine G.iload dL_areFewestSo_127 rfl ?_
  refine G.if_eq 155 dL_areFewestSo_129 rfl (fun c => ?_) (fun c => ?_)
  · replace h := (if_pos c).symm.trans h
    exact eb_xl_areFewestSo_155 hK41 h
  · replace h := (if_neg c).symm.trans h
    refine G.iload dL_areFewestSo_132 rfl ?_
    refine G.if_lt 150 dL_areFewestSo_134 rfl (fun c => ?_) (fun c => ?_)
    · replace h := (if_pos c).symm.trans h
      exact eb_xl_areFewestSo_150 hK41 h
    · replace h := (if_neg c).symm.trans h
      refine G.iload dL_areFewestSo_137 rfl ?_
      obtain ⟨v17, hv, h⟩ := bd h
      refine G.callS (e_xl_size hv) cs_L_areFewestSo_L_size rfl (Nat.le_of_ble_eq_true rfl) q601 q602 dL_areFewestSo_139 ?_
      refine G.iload dL_areFewestSo_142 rfl ?_
      obtain ⟨v18, hv, h⟩ := bd h
      refine G.callS (e_xl_size hv) cs_L_areFewestSo_L_size rfl (Nat.le_of_ble_eq_true rfl) q601 q602 dL_areFewestSo_144 ?_
      refine G.icmp_ge 155 dL_areFewestSo_147 rfl (fun c => ?_) (fun c => ?_)
      · replace h := (if_pos c).symm.trans h
        exact eb_xl_areFewestSo_155 hK41 h
      · replace h := (if_neg c).symm.trans h
        exact eb_xl_areFewestSo_150 hK41 h
set_option maxRecDepth 100000 in
theorem eb_xl_areFewestSo_108 {K41 : Int → Int → Int → Int → Int → Int → Int → Int → Mem → Option (Int × Mem)} (hK41 : ∀ (x2 : Int) (x3 : Int) (x4 : Int) (x5 : Int) (x6 : Int) (x7 : Int) (x8 : Int) (x9 : Int) (o1 : Option PV) (o10 : Option PV) (o11 : Option PV) (μ : Mem) (res : (Int × Mem)), K41 x2 x3 x4 x5 x6 x7 x8 x9 μ = some res → G shX l D ad ca YL_areFewestSo 41 [some (.inr 0), o1, some (.inl x2), some (.inl x3), some (.inl x4), some (.inl x5), some (.inl x6), some (.inl x7), some (.inl x8), some (.inl x9), o10, o11] [] μ (some (.inl res.1)) res.2) {x2 : Int} {x3 : Int} {x4 : Int} {x5 : Int} {x6 : Int} {x7 : Int} {x8 : Int} {x9 : Int} {x10 : Int} {o1 : Option PV} {o11 : Option PV} {μ : Mem} {res : (Int × Mem)} (h : xl_areFewestSo_108 K41 x2 x3 x4 x5 x6 x7 x8 x9 x10 μ = some res) : G shX l D ad ca YL_areFewestSo 108 [some (.inr 0), o1, some (.inl x2), some (.inl x3), some (.inl x4), some (.inl x5), some (.inl x6), some (.inl x7), some (.inl x8), some (.inl x9), some (.inl x10), o11] [] μ (some (.inl res.1)) res.2 := by
  rw [xl_areFewestSo_108] at h
  refine G.aload_n (i := 0) dL_areFewestSo_108 rfl rfl ?_
  refine G.iload dL_areFewestSo_109 rfl ?_
  refine G.iconst dL_areFewestSo_111 ki_2 ?_
  obtain ⟨p14, hv, h⟩ := bd h
  refine G.callV (e_xx_mixOf hv) cs_L_areFewestSo_X7_mixOf ck7 shX_0 rfl rfl (Nat.le_of_ble_eq_true rfl) q530 q531 q532 dL_areFewestSo_112 ?_
  refine G.iload dL_areFewestSo_115 rfl ?_
  refine G.icmp_ne 124 dL_areFewestSo_117 rfl (fun c => ?_) (fun c => ?_)
  · replace h := (if_neg c).symm.trans h
    refine G.iconst dL_areFewestSo_124 ki_0 ?_
    exact eb_xl_areFewestSo_125 hK41 h
  · replace h := (if_pos c).symm.trans h
    refine G.iconst dL_areFewestSo_120 ki_1 ?_
    refine G.goto 125 dL_areFewestSo_121 rfl ?_
    exact eb_xl_areFewestSo_125 hK41 h
set_option maxRecDepth 100000 in
theorem eb_xl_areFewestSo_100 {K61 : Int → Int → Int → Int → Int → Int → Int → Int → Int → Int → Mem → Option (Int × Mem)} (hK61 : ∀ (x2 : Int) (x3 : Int) (x4 : Int) (x5 : Int) (x6 : Int) (x7 : Int) (x8 : Int) (x9 : Int) (x10 : Int) (x11 : Int) (o1 : Option PV) (μ : Mem) (res : (Int × Mem)), K61 x2 x3 x4 x5 x6 x7 x8 x9 x10 x11 μ = some res → G shX l D ad ca YL_areFewestSo 61 [some (.inr 0), o1, some (.inl x2), some (.inl x3), some (.inl x4), some (.inl x5), some (.inl x6), some (.inl x7), some (.inl x8), some (.inl x9), some (.inl x10), some (.inl x11)] [] μ (some (.inl res.1)) res.2) {x2 : Int} {x3 : Int} {x4 : Int} {x5 : Int} {x6 : Int} {x7 : Int} {x8 : Int} {x9 : Int} {x11 : Int} {s0 : Int} {o1 : Option PV} {o10 : Option PV} {μ : Mem} {res : (Int × Mem)} (h : xl_areFewestSo_100 K61 x2 x3 x4 x5 x6 x7 x8 x9 x11 s0 μ = some res) : G shX l D ad ca YL_areFewestSo 100 [some (.inr 0), o1, some (.inl x2), some (.inl x3), some (.inl x4), some (.inl x5), some (.inl x6), some (.inl x7), some (.inl x8), some (.inl x9), o10, some (.inl x11)] [.inl s0] μ (some (.inl res.1)) res.2 := by
  rw [xl_areFewestSo_100] at h
  refine G.istore dL_areFewestSo_100 (Nat.le_of_ble_eq_true rfl) ?_
  replace h := bnd_mp h
  refine G.iinc dL_areFewestSo_102 rfl (Nat.le_of_ble_eq_true rfl) ?_
  refine G.goto 61 dL_areFewestSo_105 rfl ?_
  exact hK61 _ _ _ _ _ _ _ _ _ _ _ _ _ h
set_option maxRecDepth 100000 in
theorem eb_xl_areFewestSo_61 {K41 : Int → Int → Int → Int → Int → Int → Int → Int → Mem → Option (Int × Mem)} (hK41 : ∀ (x2 : Int) (x3 : Int) (x4 : Int) (x5 : Int) (x6 : Int) (x7 : Int) (x8 : Int) (x9 : Int) (o1 : Option PV) (o10 : Option PV) (o11 : Option PV) (μ : Mem) (res : (Int × Mem)), K41 x2 x3 x4 x5 x6 x7 x8 x9 μ = some res → G shX l D ad ca YL_areFewestSo 41 [some (.inr 0), o1, some (.inl x2), some (.inl x3), some (.inl x4), some (.inl x5), some (.inl x6), some (.inl x7), some (.inl x8), some (.inl x9), o10, o11] [] μ (some (.inl res.1)) res.2) : ∀ (n : Nat) (x2 : Int) (x3 : Int) (x4 : Int) (x5 : Int) (x6 : Int) (x7 : Int) (x8 : Int) (x9 : Int) (x10 : Int) (x11 : Int) (o1 : Option PV) (μ : Mem) (res : (Int × Mem)), xl_areFewestSo_61 K41 n x2 x3 x4 x5 x6 x7 x8 x9 x10 x11 μ = some res → G shX l D ad ca YL_areFewestSo 61 [some (.inr 0), o1, some (.inl x2), some (.inl x3), some (.inl x4), some (.inl x5), some (.inl x6), some (.inl x7), some (.inl x8), some (.inl x9), some (.inl x10), some (.inl x11)] [] μ (some (.inl res.1)) res.2 := by
  intro n
  induction n with
  | zero =>
    intro x2 x3 x4 x5 x6 x7 x8 x9 x10 x11 o1 μ res h
    rw [xl_areFewestSo_61] at h
    cases h
  | succ n ih =>
    intro x2 x3 x4 x5 x6 x7 x8 x9 x10 x11 o1 μ res h
    rw [xl_areFewestSo_61] at h
    refine G.iload dL_areFewestSo_61 rfl ?_
    refine G.iload_n (i := 2) dL_areFewestSo_63 rfl rfl ?_
    refine G.icmp_ge 108 dL_areFewestSo_64 rfl (fun c => ?_) (fun c => ?_)
    · replace h := (if_pos c).symm.trans h
      exact eb_xl_areFewestSo_108 hK41 h
    · replace h := (if_neg c).symm.trans h
      refine G.iload dL_areFewestSo_67 rfl ?_
      refine G.iload dL_areFewestSo_69 rfl ?_
      refine G.ishr dL_areFewestSo_71 ?_
      refine G.iconst dL_areFewestSo_72 ki_1 ?_
      refine G.iand dL_areFewestSo_73 ?_
      refine G.iconst dL_areFewestSo_74 ki_1 ?_
      refine G.icmp_ne 98 dL_areFewestSo_75 rfl (fun c => ?_) (fun c => ?_)
      · replace h := (if_neg c).symm.trans h
        refine G.iload dL_areFewestSo_98 rfl ?_
        exact eb_xl_areFewestSo_100 ih h
      · replace h := (if_pos c).symm.trans h
        refine G.aload_n (i := 0) dL_areFewestSo_78 rfl rfl ?_
        refine G.iload dL_areFewestSo_79 rfl ?_
        refine G.aload_n (i := 0) dL_areFewestSo_81 rfl rfl ?_
        refine G.aload_n (i := 0) dL_areFewestSo_82 rfl rfl ?_
        refine G.iload dL_areFewestSo_83 rfl ?_
        obtain ⟨v20, hv, h⟩ := bd h
        refine G.callV (e_xx_ranked hv) cs_L_areFewestSo_X7_ranked ck7 shX_0 rfl rfl (Nat.le_of_ble_eq_true rfl) q346 q347 q348 dL_areFewestSo_85 ?_
        refine G.iconst dL_areFewestSo_88 ki_0 ?_
        obtain ⟨p21, hv, h⟩ := bd h
        refine G.callV (e_xx_jarOf hv) cs_L_areFewestSo_X7_jarOf ck7 shX_0 rfl rfl (Nat.le_of_ble_eq_true rfl) q469 q470 q471 dL_areFewestSo_89 ?_
        obtain ⟨v22, hv, h⟩ := bd h
        refine G.callV (e_xx_together hv) cs_L_areFewestSo_X7_together ck7 shX_0 rfl rfl (Nat.le_of_ble_eq_true rfl) q560 q561 q562 dL_areFewestSo_92 ?_
        refine G.goto 100 dL_areFewestSo_95 rfl ?_
        exact eb_xl_areFewestSo_100 ih h
set_option maxRecDepth 100000 in
theorem eb_xl_areFewestSo_41 : ∀ (n : Nat) (x2 : Int) (x3 : Int) (x4 : Int) (x5 : Int) (x6 : Int) (x7 : Int) (x8 : Int) (x9 : Int) (o1 : Option PV) (o10 : Option PV) (o11 : Option PV) (μ : Mem) (res : (Int × Mem)), xl_areFewestSo_41 n x2 x3 x4 x5 x6 x7 x8 x9 μ = some res → G shX l D ad ca YL_areFewestSo 41 [some (.inr 0), o1, some (.inl x2), some (.inl x3), some (.inl x4), some (.inl x5), some (.inl x6), some (.inl x7), some (.inl x8), some (.inl x9), o10, o11] [] μ (some (.inl res.1)) res.2 := by
  intro n
  induction n with
  | zero =>
    intro x2 x3 x4 x5 x6 x7 x8 x9 o1 o10 o11 μ res h
    rw [xl_areFewestSo_41] at h
    cases h
  | succ n ih =>
    intro x2 x3 x4 x5 x6 x7 x8 x9 o1 o10 o11 μ res h
    rw [xl_areFewestSo_41] at h
    refine G.iload dL_areFewestSo_41 rfl ?_
    refine G.iconst dL_areFewestSo_43 ki_1 ?_
    refine G.iload_n (i := 2) dL_areFewestSo_44 rfl rfl ?_
    refine G.ishl dL_areFewestSo_45 ?_
    refine G.icmp_ge 168 dL_areFewestSo_46 rfl (fun c => ?_) (fun c => ?_)
    · replace h := (if_pos c).symm.trans h
      exact eb_xl_areFewestSo_168  h
    · replace h := (if_neg c).symm.trans h
      refine G.iload_n (i := 2) dL_areFewestSo_49 rfl rfl ?_
      refine G.bipush dL_areFewestSo_50 kb_8 ?_
      refine G.icmp_ge 168 dL_areFewestSo_52 rfl (fun c => ?_) (fun c => ?_)
      · replace h := (if_pos c).symm.trans h
        exact eb_xl_areFewestSo_168  h
      · replace h := (if_neg c).symm.trans h
        refine G.iconst dL_areFewestSo_55 ki_0 ?_
        refine G.istore dL_areFewestSo_56 (Nat.le_of_ble_eq_true rfl) ?_
        refine G.iconst dL_areFewestSo_58 ki_0 ?_
        refine G.istore dL_areFewestSo_59 (Nat.le_of_ble_eq_true rfl) ?_
        exact eb_xl_areFewestSo_61 ih _ _ _ _ _ _ _ _ _ _ _ _ _ _ h
set_option maxRecDepth 100000 in
theorem e_xl_areFewestSo {a1 : Int} {μ : Mem} {res : (Int × Mem)} (h : xl_areFewestSo a1 μ = some res) : GM shX l D ad ca YL_areFewestSo [.inr 0, .inl a1] μ (some (.inl res.1)) res.2 := by
  refine GM.of (L := [some (.inr 0), some (.inl a1), none, none, none, none, none, none, none, none, none, none]) (by decide +kernel) rfl (Nat.le_of_ble_eq_true rfl) ?_
  rw [xl_areFewestSo] at h
  refine G.aload_n (i := 0) dL_areFewestSo_0 rfl rfl ?_
  refine G.iconst dL_areFewestSo_1 ki_0 ?_
  obtain ⟨p1, hv, h⟩ := bd h
  refine G.callV (e_xx_count hv) cs_L_areFewestSo_X7_count ck7 shX_0 rfl rfl (Nat.le_of_ble_eq_true rfl) q264 q265 q266 dL_areFewestSo_2 ?_
  replace h := bnd_mp h
  refine G.istore_n (i := 2) dL_areFewestSo_5 rfl (Nat.le_of_ble_eq_true rfl) ?_
  refine G.aload_n (i := 0) dL_areFewestSo_6 rfl rfl ?_
  refine G.iload_n (i := 1) dL_areFewestSo_7 rfl rfl ?_
  refine G.iconst dL_areFewestSo_8 ki_0 ?_
  obtain ⟨p3, hv, h⟩ := bd h
  refine G.callV (e_xx_fewest hv) cs_L_areFewestSo_X7_fewest ck7 shX_0 rfl rfl (Nat.le_of_ble_eq_true rfl) q580 q581 q582 dL_areFewestSo_9 ?_
  replace h := bnd_mp h
  refine G.istore_n (i := 3) dL_areFewestSo_12 rfl (Nat.le_of_ble_eq_true rfl) ?_
  refine G.aload_n (i := 0) dL_areFewestSo_13 rfl rfl ?_
  refine G.iload_n (i := 1) dL_areFewestSo_14 rfl rfl ?_
  refine G.iconst dL_areFewestSo_15 ki_1 ?_
  obtain ⟨p5, hv, h⟩ := bd h
  refine G.callV (e_xx_fewest hv) cs_L_areFewestSo_X7_fewest ck7 shX_0 rfl rfl (Nat.le_of_ble_eq_true rfl) q580 q581 q582 dL_areFewestSo_16 ?_
  replace h := bnd_mp h
  refine G.istore dL_areFewestSo_19 (Nat.le_of_ble_eq_true rfl) ?_
  refine G.aload_n (i := 0) dL_areFewestSo_21 rfl rfl ?_
  refine G.iload_n (i := 1) dL_areFewestSo_22 rfl rfl ?_
  refine G.iconst dL_areFewestSo_23 ki_2 ?_
  obtain ⟨p7, hv, h⟩ := bd h
  refine G.callV (e_xx_mixOf hv) cs_L_areFewestSo_X7_mixOf ck7 shX_0 rfl rfl (Nat.le_of_ble_eq_true rfl) q530 q531 q532 dL_areFewestSo_24 ?_
  replace h := bnd_mp h
  refine G.istore dL_areFewestSo_27 (Nat.le_of_ble_eq_true rfl) ?_
  refine G.iconst dL_areFewestSo_29 ki_m1 ?_
  refine G.istore dL_areFewestSo_30 (Nat.le_of_ble_eq_true rfl) ?_
  refine G.iconst dL_areFewestSo_32 ki_0 ?_
  refine G.istore dL_areFewestSo_33 (Nat.le_of_ble_eq_true rfl) ?_
  refine G.iconst dL_areFewestSo_35 ki_1 ?_
  refine G.istore dL_areFewestSo_36 (Nat.le_of_ble_eq_true rfl) ?_
  refine G.iconst dL_areFewestSo_38 ki_0 ?_
  refine G.istore dL_areFewestSo_39 (Nat.le_of_ble_eq_true rfl) ?_
  exact eb_xl_areFewestSo_41  _ _ _ _ _ _ _ _ _ _ _ _ _ _ h
set_option maxRecDepth 100000 in
theorem eb_xl_areRulesSo_110 {s0 : Int} {o1 : Option PV} {o2 : Option PV} {o3 : Option PV} {o4 : Option PV} {o5 : Option PV} {o6 : Option PV} {μ : Mem} {res : (Int × Mem)} (h : xl_areRulesSo_110 s0 μ = some res) : G shX l D ad ca YL_areRulesSo 110 [some (.inr 0), o1, o2, o3, o4, o5, o6] [.inl s0] μ (some (.inl res.1)) res.2 := by
  rw [xl_areRulesSo_110] at h
  obtain ⟨hz, h⟩ := ite_yn h
  cases h
  exact G.zret .boolean dL_areRulesSo_110 rfl (nar_z hz)
set_option maxRecDepth 100000 in
theorem eb_xl_areRulesSo_109 {o1 : Option PV} {o2 : Option PV} {o3 : Option PV} {o4 : Option PV} {o5 : Option PV} {o6 : Option PV} {μ : Mem} {res : (Int × Mem)} (h : xl_areRulesSo_109 μ = some res) : G shX l D ad ca YL_areRulesSo 109 [some (.inr 0), o1, o2, o3, o4, o5, o6] [] μ (some (.inl res.1)) res.2 := by
  rw [xl_areRulesSo_109] at h
  refine G.iconst dL_areRulesSo_109 ki_0 ?_
  exact eb_xl_areRulesSo_110  h
set_option maxRecDepth 100000 in
theorem eb_xl_areRulesSo_92 {x4 : Int} {s0 : Int} {s1 : Int} {o1 : Option PV} {o2 : Option PV} {o3 : Option PV} {o5 : Option PV} {o6 : Option PV} {μ : Mem} {res : (Int × Mem)} (h : xl_areRulesSo_92 x4 s0 s1 μ = some res) : G shX l D ad ca YL_areRulesSo 92 [some (.inr 0), o1, o2, o3, some (.inl x4), o5, o6] [.inl s1, .inl s0] μ (some (.inl res.1)) res.2 := by
  rw [xl_areRulesSo_92] at h
  refine G.icmp_ne 109 dL_areRulesSo_92 rfl (fun c => ?_) (fun c => ?_)
  · replace h := (if_neg c).symm.trans h
    exact eb_xl_areRulesSo_109  h
  · replace h := (if_pos c).symm.trans h
    refine G.aload_n (i := 0) dL_areRulesSo_95 rfl rfl ?_
    refine G.iconst dL_areRulesSo_96 ki_1 ?_
    obtain ⟨p8, hv, h⟩ := bd h
    refine G.callV (e_xx_count hv) cs_L_areRulesSo_X7_count ck7 shX_0 rfl rfl (Nat.le_of_ble_eq_true rfl) q264 q265 q266 dL_areRulesSo_97 ?_
    refine G.iload dL_areRulesSo_100 rfl ?_
    refine G.icmp_ne 109 dL_areRulesSo_102 rfl (fun c => ?_) (fun c => ?_)
    · replace h := (if_neg c).symm.trans h
      exact eb_xl_areRulesSo_109  h
    · replace h := (if_pos c).symm.trans h
      refine G.iconst dL_areRulesSo_105 ki_1 ?_
      refine G.goto 110 dL_areRulesSo_106 rfl ?_
      exact eb_xl_areRulesSo_110  h
set_option maxRecDepth 100000 in
theorem eb_xl_areRulesSo_81 {x1 : Int} {x4 : Int} {s0 : Int} {o2 : Option PV} {o3 : Option PV} {o5 : Option PV} {o6 : Option PV} {μ : Mem} {res : (Int × Mem)} (h : xl_areRulesSo_81 x1 x4 s0 μ = some res) : G shX l D ad ca YL_areRulesSo 81 [some (.inr 0), some (.inl x1), o2, o3, some (.inl x4), o5, o6] [.inl s0] μ (some (.inl res.1)) res.2 := by
  rw [xl_areRulesSo_81] at h
  refine G.iload_n (i := 1) dL_areRulesSo_81 rfl rfl ?_
  refine G.iload dL_areRulesSo_82 rfl ?_
  refine G.icmp_ne 91 dL_areRulesSo_84 rfl (fun c => ?_) (fun c => ?_)
  · replace h := (if_neg c).symm.trans h
    refine G.iconst dL_areRulesSo_91 ki_0 ?_
    exact eb_xl_areRulesSo_92  h
  · replace h := (if_pos c).symm.trans h
    refine G.iconst dL_areRulesSo_87 ki_1 ?_
    refine G.goto 92 dL_areRulesSo_88 rfl ?_
    exact eb_xl_areRulesSo_92  h
set_option maxRecDepth 100000 in
theorem eb_xl_areRulesSo_65 {x1 : Int} {x2 : Int} {x3 : Int} {x4 : Int} {o5 : Option PV} {o6 : Option PV} {μ : Mem} {res : (Int × Mem)} (h : xl_areRulesSo_65 x1 x2 x3 x4 μ = some res) : G shX l D ad ca YL_areRulesSo 65 [some (.inr 0), some (.inl x1), some (.inl x2), some (.inl x3), some (.inl x4), o5, o6] [] μ (some (.inl res.1)) res.2 := by
  rw [xl_areRulesSo_65] at h
  refine G.iload_n (i := 3) dL_areRulesSo_65 rfl rfl ?_
  refine G.iload_n (i := 2) dL_areRulesSo_66 rfl rfl ?_
  refine G.icmp_ne 109 dL_areRulesSo_67 rfl (fun c => ?_) (fun c => ?_)
  · replace h := (if_neg c).symm.trans h
    exact eb_xl_areRulesSo_109  h
  · replace h := (if_pos c).symm.trans h
    refine G.iload_n (i := 2) dL_areRulesSo_70 rfl rfl ?_
    refine G.bipush dL_areRulesSo_71 kb_m5 ?_
    refine G.icmp_ne 80 dL_areRulesSo_73 rfl (fun c => ?_) (fun c => ?_)
    · replace h := (if_neg c).symm.trans h
      refine G.iconst dL_areRulesSo_80 ki_0 ?_
      exact eb_xl_areRulesSo_81  h
    · replace h := (if_pos c).symm.trans h
      refine G.iconst dL_areRulesSo_76 ki_1 ?_
      refine G.goto 81 dL_areRulesSo_77 rfl ?_
      exact eb_xl_areRulesSo_81  h
set_option maxRecDepth 100000 in
theorem eb_xl_areRulesSo_52 {K27 : Int → Int → Int → Int → Int → Mem → Option (Int × Mem)} (hK27 : ∀ (x1 : Int) (x2 : Int) (x3 : Int) (x4 : Int) (x5 : Int) (o6 : Option PV) (μ : Mem) (res : (Int × Mem)), K27 x1 x2 x3 x4 x5 μ = some res → G shX l D ad ca YL_areRulesSo 27 [some (.inr 0), some (.inl x1), some (.inl x2), some (.inl x3), some (.inl x4), some (.inl x5), o6] [] μ (some (.inl res.1)) res.2) {x1 : Int} {x2 : Int} {x4 : Int} {x5 : Int} {s0 : Int} {o3 : Option PV} {o6 : Option PV} {μ : Mem} {res : (Int × Mem)} (h : xl_areRulesSo_52 K27 x1 x2 x4 x5 s0 μ = some res) : G shX l D ad ca YL_areRulesSo 52 [some (.inr 0), some (.inl x1), some (.inl x2), o3, some (.inl x4), some (.inl x5), o6] [.inl s0] μ (some (.inl res.1)) res.2 := by
  rw [xl_areRulesSo_52] at h
  refine G.istore_n (i := 3) dL_areRulesSo_52 rfl (Nat.le_of_ble_eq_true rfl) ?_
  refine G.aload_n (i := 0) dL_areRulesSo_53 rfl rfl ?_
  obtain ⟨p11, hv, h⟩ := bd h
  refine G.callV (e_xx_undo hv) cs_L_areRulesSo_X7_undo ck7 shX_0 rfl rfl (Nat.le_of_ble_eq_true rfl) q624 q625 q626 dL_areRulesSo_54 ?_
  replace h := bnd_mp h
  refine G.istore dL_areRulesSo_57 (Nat.le_of_ble_eq_true rfl) ?_
  replace h := bnd_mp h
  refine G.iinc dL_areRulesSo_59 rfl (Nat.le_of_ble_eq_true rfl) ?_
  refine G.goto 27 dL_areRulesSo_62 rfl ?_
  exact hK27 _ _ _ _ _ _ _ _ h
set_option maxRecDepth 100000 in
theorem eb_xl_areRulesSo_27 : ∀ (n : Nat) (x1 : Int) (x2 : Int) (x3 : Int) (x4 : Int) (x5 : Int) (o6 : Option PV) (μ : Mem) (res : (Int × Mem)), xl_areRulesSo_27 n x1 x2 x3 x4 x5 μ = some res → G shX l D ad ca YL_areRulesSo 27 [some (.inr 0), some (.inl x1), some (.inl x2), some (.inl x3), some (.inl x4), some (.inl x5), o6] [] μ (some (.inl res.1)) res.2 := by
  intro n
  induction n with
  | zero =>
    intro x1 x2 x3 x4 x5 o6 μ res h
    rw [xl_areRulesSo_27] at h
    cases h
  | succ n ih =>
    intro x1 x2 x3 x4 x5 o6 μ res h
    rw [xl_areRulesSo_27] at h
    refine G.iload dL_areRulesSo_27 rfl ?_
    refine G.if_lt 65 dL_areRulesSo_29 rfl (fun c => ?_) (fun c => ?_)
    · replace h := (if_pos c).symm.trans h
      exact eb_xl_areRulesSo_65  h
    · replace h := (if_neg c).symm.trans h
      refine G.aload_n (i := 0) dL_areRulesSo_32 rfl rfl ?_
      refine G.iload dL_areRulesSo_33 rfl ?_
      obtain ⟨p9, hv, h⟩ := bd h
      refine G.callV (e_xx_drop hv) cs_L_areRulesSo_X7_drop ck7 shX_0 rfl rfl (Nat.le_of_ble_eq_true rfl) q441 q442 q443 dL_areRulesSo_35 ?_
      replace h := bnd_mp h
      refine G.istore dL_areRulesSo_38 (Nat.le_of_ble_eq_true rfl) ?_
      refine G.iload dL_areRulesSo_40 rfl ?_
      refine G.iload_n (i := 1) dL_areRulesSo_42 rfl rfl ?_
      refine G.icmp_ne 51 dL_areRulesSo_43 rfl (fun c => ?_) (fun c => ?_)
      · replace h := (if_neg c).symm.trans h
        refine G.iload_n (i := 3) dL_areRulesSo_51 rfl rfl ?_
        exact eb_xl_areRulesSo_52 ih h
      · replace h := (if_pos c).symm.trans h
        refine G.iload dL_areRulesSo_46 rfl ?_
        refine G.goto 52 dL_areRulesSo_48 rfl ?_
        exact eb_xl_areRulesSo_52 ih h
set_option maxRecDepth 100000 in
theorem e_xl_areRulesSo {μ : Mem} {res : (Int × Mem)} (h : xl_areRulesSo μ = some res) : GM shX l D ad ca YL_areRulesSo [.inr 0] μ (some (.inl res.1)) res.2 := by
  refine GM.of (L := [some (.inr 0), none, none, none, none, none, none]) (by decide +kernel) rfl (Nat.le_of_ble_eq_true rfl) ?_
  rw [xl_areRulesSo] at h
  refine G.aload_n (i := 0) dL_areRulesSo_0 rfl rfl ?_
  refine G.iconst dL_areRulesSo_1 ki_2 ?_
  obtain ⟨p1, hv, h⟩ := bd h
  refine G.callV (e_xx_count hv) cs_L_areRulesSo_X7_count ck7 shX_0 rfl rfl (Nat.le_of_ble_eq_true rfl) q264 q265 q266 dL_areRulesSo_2 ?_
  replace h := bnd_mp h
  refine G.istore_n (i := 1) dL_areRulesSo_5 rfl (Nat.le_of_ble_eq_true rfl) ?_
  refine G.aload_n (i := 0) dL_areRulesSo_6 rfl rfl ?_
  obtain ⟨p3, hv, h⟩ := bd h
  refine G.callV (e_xx_needless hv) cs_L_areRulesSo_X7_needless ck7 shX_0 rfl rfl (Nat.le_of_ble_eq_true rfl) q616 q617 q618 dL_areRulesSo_7 ?_
  replace h := bnd_mp h
  refine G.istore_n (i := 2) dL_areRulesSo_10 rfl (Nat.le_of_ble_eq_true rfl) ?_
  refine G.bipush dL_areRulesSo_11 kb_m5 ?_
  refine G.istore_n (i := 3) dL_areRulesSo_13 rfl (Nat.le_of_ble_eq_true rfl) ?_
  refine G.aload_n (i := 0) dL_areRulesSo_14 rfl rfl ?_
  refine G.iconst dL_areRulesSo_15 ki_1 ?_
  obtain ⟨p5, hv, h⟩ := bd h
  refine G.callV (e_xx_count hv) cs_L_areRulesSo_X7_count ck7 shX_0 rfl rfl (Nat.le_of_ble_eq_true rfl) q264 q265 q266 dL_areRulesSo_16 ?_
  replace h := bnd_mp h
  refine G.istore dL_areRulesSo_19 (Nat.le_of_ble_eq_true rfl) ?_
  refine G.iload dL_areRulesSo_21 rfl ?_
  refine G.iconst dL_areRulesSo_23 ki_1 ?_
  refine G.isub dL_areRulesSo_24 ?_
  replace h := bnd_mp h
  refine G.istore dL_areRulesSo_25 (Nat.le_of_ble_eq_true rfl) ?_
  exact eb_xl_areRulesSo_27  _ _ _ _ _ _ _ _ _ h
set_option maxRecDepth 100000 in
theorem eb_xl_isPourSo_186 {s0 : Int} {o1 : Option PV} {o2 : Option PV} {o3 : Option PV} {o4 : Option PV} {o5 : Option PV} {o6 : Option PV} {o7 : Option PV} {o8 : Option PV} {o9 : Option PV} {μ : Mem} {res : (Int × Mem)} (h : xl_isPourSo_186 s0 μ = some res) : G shX l D ad ca YL_isPourSo 186 [some (.inr 0), o1, o2, o3, o4, o5, o6, o7, o8, o9] [.inl s0] μ (some (.inl res.1)) res.2 := by
  rw [xl_isPourSo_186] at h
  obtain ⟨hz, h⟩ := ite_yn h
  cases h
  exact G.zret .boolean dL_isPourSo_186 rfl (nar_z hz)
set_option maxRecDepth 100000 in
theorem eb_xl_isPourSo_185 {o1 : Option PV} {o2 : Option PV} {o3 : Option PV} {o4 : Option PV} {o5 : Option PV} {o6 : Option PV} {o7 : Option PV} {o8 : Option PV} {o9 : Option PV} {μ : Mem} {res : (Int × Mem)} (h : xl_isPourSo_185 μ = some res) : G shX l D ad ca YL_isPourSo 185 [some (.inr 0), o1, o2, o3, o4, o5, o6, o7, o8, o9] [] μ (some (.inl res.1)) res.2 := by
  rw [xl_isPourSo_185] at h
  refine G.iconst dL_isPourSo_185 ki_0 ?_
  exact eb_xl_isPourSo_186  h
set_option maxRecDepth 100000 in
theorem eb_xl_isPourSo_152 {x6 : Int} {s0 : Int} {o1 : Option PV} {o2 : Option PV} {o3 : Option PV} {o4 : Option PV} {o5 : Option PV} {o7 : Option PV} {o8 : Option PV} {o9 : Option PV} {μ : Mem} {res : (Int × Mem)} (h : xl_isPourSo_152 x6 s0 μ = some res) : G shX l D ad ca YL_isPourSo 152 [some (.inr 0), o1, o2, o3, o4, o5, some (.inl x6), o7, o8, o9] [.inl s0] μ (some (.inl res.1)) res.2 := by
  rw [xl_isPourSo_152] at h
  refine G.istore dL_isPourSo_152 (Nat.le_of_ble_eq_true rfl) ?_
  refine G.aload_n (i := 0) dL_isPourSo_154 rfl rfl ?_
  obtain ⟨p14, hv, h⟩ := bd h
  refine G.callV (e_xx_undo hv) cs_L_isPourSo_X7_undo ck7 shX_0 rfl rfl (Nat.le_of_ble_eq_true rfl) q624 q625 q626 dL_isPourSo_155 ?_
  replace h := bnd_mp h
  refine G.istore dL_isPourSo_158 (Nat.le_of_ble_eq_true rfl) ?_
  refine G.iload dL_isPourSo_160 rfl ?_
  refine G.if_eq 185 dL_isPourSo_162 rfl (fun c => ?_) (fun c => ?_)
  · replace h := (if_pos c).symm.trans h
    exact eb_xl_isPourSo_185  h
  · replace h := (if_neg c).symm.trans h
    refine G.iload dL_isPourSo_165 rfl ?_
    refine G.if_lt 185 dL_isPourSo_167 rfl (fun c => ?_) (fun c => ?_)
    · replace h := (if_pos c).symm.trans h
      exact eb_xl_isPourSo_185  h
    · replace h := (if_neg c).symm.trans h
      refine G.aload_n (i := 0) dL_isPourSo_170 rfl rfl ?_
      refine G.bipush dL_isPourSo_171 kb_8 ?_
      obtain ⟨p16, hv, h⟩ := bd h
      refine G.callV (e_xx_count hv) cs_L_isPourSo_X7_count ck7 shX_0 rfl rfl (Nat.le_of_ble_eq_true rfl) q264 q265 q266 dL_isPourSo_173 ?_
      refine G.iload dL_isPourSo_176 rfl ?_
      refine G.icmp_ne 185 dL_isPourSo_178 rfl (fun c => ?_) (fun c => ?_)
      · replace h := (if_neg c).symm.trans h
        exact eb_xl_isPourSo_185  h
      · replace h := (if_pos c).symm.trans h
        refine G.iconst dL_isPourSo_181 ki_1 ?_
        refine G.goto 186 dL_isPourSo_182 rfl ?_
        exact eb_xl_isPourSo_186  h
set_option maxRecDepth 100000 in
theorem eb_xl_isPourSo_151 {x6 : Int} {o1 : Option PV} {o2 : Option PV} {o3 : Option PV} {o4 : Option PV} {o5 : Option PV} {o7 : Option PV} {o8 : Option PV} {o9 : Option PV} {μ : Mem} {res : (Int × Mem)} (h : xl_isPourSo_151 x6 μ = some res) : G shX l D ad ca YL_isPourSo 151 [some (.inr 0), o1, o2, o3, o4, o5, some (.inl x6), o7, o8, o9] [] μ (some (.inl res.1)) res.2 := by
  rw [xl_isPourSo_151] at h
  refine G.iconst dL_isPourSo_151 ki_0 ?_
  exact eb_xl_isPourSo_152  h
set_option maxRecDepth 100000 in
theorem eb_xl_isPourSo_95 {s0 : Int} {o1 : Option PV} {o2 : Option PV} {o3 : Option PV} {o4 : Option PV} {o5 : Option PV} {o6 : Option PV} {o7 : Option PV} {o8 : Option PV} {o9 : Option PV} {μ : Mem} {res : (Int × Mem)} (h : xl_isPourSo_95 s0 μ = some res) : G shX l D ad ca YL_isPourSo 95 [some (.inr 0), o1, o2, o3, o4, o5, o6, o7, o8, o9] [.inl s0] μ (some (.inl res.1)) res.2 := by
  rw [xl_isPourSo_95] at h
  obtain ⟨hz, h⟩ := ite_yn h
  cases h
  exact G.zret .boolean dL_isPourSo_95 rfl (nar_z hz)
set_option maxRecDepth 100000 in
theorem eb_xl_isPourSo_94 {o1 : Option PV} {o2 : Option PV} {o3 : Option PV} {o4 : Option PV} {o5 : Option PV} {o6 : Option PV} {o7 : Option PV} {o8 : Option PV} {o9 : Option PV} {μ : Mem} {res : (Int × Mem)} (h : xl_isPourSo_94 μ = some res) : G shX l D ad ca YL_isPourSo 94 [some (.inr 0), o1, o2, o3, o4, o5, o6, o7, o8, o9] [] μ (some (.inl res.1)) res.2 := by
  rw [xl_isPourSo_94] at h
  refine G.iconst dL_isPourSo_94 ki_0 ?_
  exact eb_xl_isPourSo_95  h
set_option maxRecDepth 100000 in
theorem e_xl_isPourSo {a1 : Int} {a2 : Int} {μ : Mem} {res : (Int × Mem)} (h : xl_isPourSo a1 a2 μ = some res) : GM shX l D ad ca YL_isPourSo [.inr 0, .inl a1, .inl a2] μ (some (.inl res.1)) res.2 := by
  refine GM.of (L := [some (.inr 0), some (.inl a1), some (.inl a2), none, none, none, none, none, none, none]) (by decide +kernel) rfl (Nat.le_of_ble_eq_true rfl) ?_
  rw [xl_isPourSo] at h
  refine G.aload_n (i := 0) dL_isPourSo_0 rfl rfl ?_
  refine G.iload_n (i := 1) dL_isPourSo_1 rfl rfl ?_
  refine G.iload_n (i := 2) dL_isPourSo_2 rfl rfl ?_
  obtain ⟨p1, hv, h⟩ := bd h
  refine G.callV (e_xx_ifPoured hv) cs_L_isPourSo_X7_ifPoured ck7 shX_0 rfl rfl (Nat.le_of_ble_eq_true rfl) q639 q640 q641 dL_isPourSo_3 ?_
  replace h := bnd_mp h
  refine G.istore_n (i := 3) dL_isPourSo_6 rfl (Nat.le_of_ble_eq_true rfl) ?_
  refine G.aload_n (i := 0) dL_isPourSo_7 rfl rfl ?_
  refine G.aload_n (i := 0) dL_isPourSo_8 rfl rfl ?_
  refine G.iload_n (i := 1) dL_isPourSo_9 rfl rfl ?_
  refine G.iconst dL_isPourSo_10 ki_0 ?_
  obtain ⟨p3, hv, h⟩ := bd h
  refine G.callV (e_xx_jarOf hv) cs_L_isPourSo_X7_jarOf ck7 shX_0 rfl rfl (Nat.le_of_ble_eq_true rfl) q469 q470 q471 dL_isPourSo_11 ?_
  refine G.aload_n (i := 0) dL_isPourSo_14 rfl rfl ?_
  refine G.iload_n (i := 2) dL_isPourSo_15 rfl rfl ?_
  refine G.iconst dL_isPourSo_16 ki_0 ?_
  obtain ⟨p4, hv, h⟩ := bd h
  refine G.callV (e_xx_jarOf hv) cs_L_isPourSo_X7_jarOf ck7 shX_0 rfl rfl (Nat.le_of_ble_eq_true rfl) q469 q470 q471 dL_isPourSo_17 ?_
  obtain ⟨v5, hv, h⟩ := bd h
  refine G.callV (e_xx_together hv) cs_L_isPourSo_X7_together ck7 shX_0 rfl rfl (Nat.le_of_ble_eq_true rfl) q560 q561 q562 dL_isPourSo_20 ?_
  refine G.istore dL_isPourSo_23 (Nat.le_of_ble_eq_true rfl) ?_
  refine G.aload_n (i := 0) dL_isPourSo_25 rfl rfl ?_
  refine G.iload_n (i := 1) dL_isPourSo_26 rfl rfl ?_
  refine G.iconst dL_isPourSo_27 ki_1 ?_
  obtain ⟨p6, hv, h⟩ := bd h
  refine G.callV (e_xx_jarOf hv) cs_L_isPourSo_X7_jarOf ck7 shX_0 rfl rfl (Nat.le_of_ble_eq_true rfl) q469 q470 q471 dL_isPourSo_28 ?_
  refine G.aload_n (i := 0) dL_isPourSo_31 rfl rfl ?_
  refine G.iload_n (i := 2) dL_isPourSo_32 rfl rfl ?_
  refine G.iconst dL_isPourSo_33 ki_1 ?_
  obtain ⟨p7, hv, h⟩ := bd h
  refine G.callV (e_xx_jarOf hv) cs_L_isPourSo_X7_jarOf ck7 shX_0 rfl rfl (Nat.le_of_ble_eq_true rfl) q469 q470 q471 dL_isPourSo_34 ?_
  refine G.iadd dL_isPourSo_37 ?_
  refine G.aload_n (i := 0) dL_isPourSo_38 rfl rfl ?_
  refine G.iload dL_isPourSo_39 rfl ?_
  refine G.iconst dL_isPourSo_41 ki_0 ?_
  obtain ⟨p8, hv, h⟩ := bd h
  refine G.callV (e_xx_mixOf hv) cs_L_isPourSo_X7_mixOf ck7 shX_0 rfl rfl (Nat.le_of_ble_eq_true rfl) q530 q531 q532 dL_isPourSo_42 ?_
  refine G.isub dL_isPourSo_45 ?_
  replace h := bnd_mp h
  refine G.istore dL_isPourSo_46 (Nat.le_of_ble_eq_true rfl) ?_
  refine G.aload_n (i := 0) dL_isPourSo_48 rfl rfl ?_
  refine G.bipush dL_isPourSo_49 kb_8 ?_
  obtain ⟨p10, hv, h⟩ := bd h
  refine G.callV (e_xx_count hv) cs_L_isPourSo_X7_count ck7 shX_0 rfl rfl (Nat.le_of_ble_eq_true rfl) q264 q265 q266 dL_isPourSo_51 ?_
  replace h := bnd_mp h
  refine G.istore dL_isPourSo_54 (Nat.le_of_ble_eq_true rfl) ?_
  refine G.aload_n (i := 0) dL_isPourSo_56 rfl rfl ?_
  refine G.iload_n (i := 1) dL_isPourSo_57 rfl rfl ?_
  refine G.iload_n (i := 2) dL_isPourSo_58 rfl rfl ?_
  obtain ⟨p12, hv, h⟩ := bd h
  refine G.callV (e_xx_pour hv) cs_L_isPourSo_X7_pour ck7 shX_0 rfl rfl (Nat.le_of_ble_eq_true rfl) q401 q402 q403 dL_isPourSo_59 ?_
  replace h := bnd_mp h
  refine G.istore dL_isPourSo_62 (Nat.le_of_ble_eq_true rfl) ?_
  refine G.iload dL_isPourSo_64 rfl ?_
  refine G.bipush dL_isPourSo_66 kb_m5 ?_
  refine G.icmp_ne 96 dL_isPourSo_68 rfl (fun c => ?_) (fun c => ?_)
  · replace h := (if_neg c).symm.trans h
    refine G.iload dL_isPourSo_96 rfl ?_
    refine G.iload dL_isPourSo_98 rfl ?_
    refine G.icmp_ne 151 dL_isPourSo_100 rfl (fun c => ?_) (fun c => ?_)
    · replace h := (if_neg c).symm.trans h
      exact eb_xl_isPourSo_151  h
    · replace h := (if_pos c).symm.trans h
      refine G.aload_n (i := 0) dL_isPourSo_103 rfl rfl ?_
      refine G.iload_n (i := 2) dL_isPourSo_104 rfl rfl ?_
      refine G.iconst dL_isPourSo_105 ki_0 ?_
      obtain ⟨p17, hv, h⟩ := bd h
      refine G.callV (e_xx_jarOf hv) cs_L_isPourSo_X7_jarOf ck7 shX_0 rfl rfl (Nat.le_of_ble_eq_true rfl) q469 q470 q471 dL_isPourSo_106 ?_
      refine G.iload dL_isPourSo_109 rfl ?_
      refine G.icmp_ne 151 dL_isPourSo_111 rfl (fun c => ?_) (fun c => ?_)
      · replace h := (if_neg c).symm.trans h
        exact eb_xl_isPourSo_151  h
      · replace h := (if_pos c).symm.trans h
        refine G.aload_n (i := 0) dL_isPourSo_114 rfl rfl ?_
        refine G.iload_n (i := 2) dL_isPourSo_115 rfl rfl ?_
        refine G.iconst dL_isPourSo_116 ki_3 ?_
        obtain ⟨p18, hv, h⟩ := bd h
        refine G.callV (e_xx_jarOf hv) cs_L_isPourSo_X7_jarOf ck7 shX_0 rfl rfl (Nat.le_of_ble_eq_true rfl) q469 q470 q471 dL_isPourSo_117 ?_
        refine G.iload_n (i := 3) dL_isPourSo_120 rfl rfl ?_
        refine G.icmp_ne 151 dL_isPourSo_121 rfl (fun c => ?_) (fun c => ?_)
        · replace h := (if_neg c).symm.trans h
          exact eb_xl_isPourSo_151  h
        · replace h := (if_pos c).symm.trans h
          refine G.aload_n (i := 0) dL_isPourSo_124 rfl rfl ?_
          refine G.iload_n (i := 1) dL_isPourSo_125 rfl rfl ?_
          refine G.iconst dL_isPourSo_126 ki_0 ?_
          obtain ⟨p19, hv, h⟩ := bd h
          refine G.callV (e_xx_jarOf hv) cs_L_isPourSo_X7_jarOf ck7 shX_0 rfl rfl (Nat.le_of_ble_eq_true rfl) q469 q470 q471 dL_isPourSo_127 ?_
          refine G.if_ne 151 dL_isPourSo_130 rfl (fun c => ?_) (fun c => ?_)
          · replace h := (if_neg c).symm.trans h
            exact eb_xl_isPourSo_151  h
          · replace h := (if_pos c).symm.trans h
            refine G.aload_n (i := 0) dL_isPourSo_133 rfl rfl ?_
            refine G.bipush dL_isPourSo_134 kb_8 ?_
            obtain ⟨p20, hv, h⟩ := bd h
            refine G.callV (e_xx_count hv) cs_L_isPourSo_X7_count ck7 shX_0 rfl rfl (Nat.le_of_ble_eq_true rfl) q264 q265 q266 dL_isPourSo_136 ?_
            refine G.iload dL_isPourSo_139 rfl ?_
            refine G.iload dL_isPourSo_141 rfl ?_
            refine G.iadd dL_isPourSo_143 ?_
            refine G.icmp_ne 151 dL_isPourSo_144 rfl (fun c => ?_) (fun c => ?_)
            · replace h := (if_neg c).symm.trans h
              exact eb_xl_isPourSo_151  h
            · replace h := (if_pos c).symm.trans h
              refine G.iconst dL_isPourSo_147 ki_1 ?_
              refine G.goto 152 dL_isPourSo_148 rfl ?_
              exact eb_xl_isPourSo_152  h
  · replace h := (if_pos c).symm.trans h
    refine G.aload_n (i := 0) dL_isPourSo_71 rfl rfl ?_
    refine G.iload_n (i := 1) dL_isPourSo_72 rfl rfl ?_
    refine G.iconst dL_isPourSo_73 ki_0 ?_
    obtain ⟨p21, hv, h⟩ := bd h
    refine G.callV (e_xx_jarOf hv) cs_L_isPourSo_X7_jarOf ck7 shX_0 rfl rfl (Nat.le_of_ble_eq_true rfl) q469 q470 q471 dL_isPourSo_74 ?_
    refine G.if_ne 94 dL_isPourSo_77 rfl (fun c => ?_) (fun c => ?_)
    · replace h := (if_neg c).symm.trans h
      exact eb_xl_isPourSo_94  h
    · replace h := (if_pos c).symm.trans h
      refine G.iload_n (i := 3) dL_isPourSo_80 rfl rfl ?_
      refine G.aload_n (i := 0) dL_isPourSo_81 rfl rfl ?_
      refine G.iload_n (i := 2) dL_isPourSo_82 rfl rfl ?_
      refine G.iconst dL_isPourSo_83 ki_3 ?_
      obtain ⟨p22, hv, h⟩ := bd h
      refine G.callV (e_xx_jarOf hv) cs_L_isPourSo_X7_jarOf ck7 shX_0 rfl rfl (Nat.le_of_ble_eq_true rfl) q469 q470 q471 dL_isPourSo_84 ?_
      refine G.icmp_ne 94 dL_isPourSo_87 rfl (fun c => ?_) (fun c => ?_)
      · replace h := (if_neg c).symm.trans h
        exact eb_xl_isPourSo_94  h
      · replace h := (if_pos c).symm.trans h
        refine G.iconst dL_isPourSo_90 ki_1 ?_
        refine G.goto 95 dL_isPourSo_91 rfl ?_
        exact eb_xl_isPourSo_95  h
set_option maxRecDepth 100000 in
theorem eb_xl_isServeSo_229 {s0 : Int} {o1 : Option PV} {o2 : Option PV} {o3 : Option PV} {o4 : Option PV} {o5 : Option PV} {o6 : Option PV} {o7 : Option PV} {o8 : Option PV} {μ : Mem} {res : (Int × Mem)} (h : xl_isServeSo_229 s0 μ = some res) : G shX l D ad ca YL_isServeSo 229 [some (.inr 0), o1, o2, o3, o4, o5, o6, o7, o8] [.inl s0] μ (some (.inl res.1)) res.2 := by
  rw [xl_isServeSo_229] at h
  obtain ⟨hz, h⟩ := ite_yn h
  cases h
  exact G.zret .boolean dL_isServeSo_229 rfl (nar_z hz)
set_option maxRecDepth 100000 in
theorem eb_xl_isServeSo_228 {o1 : Option PV} {o2 : Option PV} {o3 : Option PV} {o4 : Option PV} {o5 : Option PV} {o6 : Option PV} {o7 : Option PV} {o8 : Option PV} {μ : Mem} {res : (Int × Mem)} (h : xl_isServeSo_228 μ = some res) : G shX l D ad ca YL_isServeSo 228 [some (.inr 0), o1, o2, o3, o4, o5, o6, o7, o8] [] μ (some (.inl res.1)) res.2 := by
  rw [xl_isServeSo_228] at h
  refine G.iconst dL_isServeSo_228 ki_0 ?_
  exact eb_xl_isServeSo_229  h
set_option maxRecDepth 100000 in
theorem eb_xl_isServeSo_197 {x1 : Int} {s0 : Int} {o2 : Option PV} {o3 : Option PV} {o4 : Option PV} {o5 : Option PV} {o6 : Option PV} {o7 : Option PV} {o8 : Option PV} {μ : Mem} {res : (Int × Mem)} (h : xl_isServeSo_197 x1 s0 μ = some res) : G shX l D ad ca YL_isServeSo 197 [some (.inr 0), some (.inl x1), o2, o3, o4, o5, o6, o7, o8] [.inl s0] μ (some (.inl res.1)) res.2 := by
  rw [xl_isServeSo_197] at h
  refine G.istore dL_isServeSo_197 (Nat.le_of_ble_eq_true rfl) ?_
  refine G.aload_n (i := 0) dL_isServeSo_199 rfl rfl ?_
  obtain ⟨p13, hv, h⟩ := bd h
  refine G.callV (e_xx_undo hv) cs_L_isServeSo_X7_undo ck7 shX_0 rfl rfl (Nat.le_of_ble_eq_true rfl) q624 q625 q626 dL_isServeSo_200 ?_
  replace h := bnd_mp h
  refine G.istore dL_isServeSo_203 (Nat.le_of_ble_eq_true rfl) ?_
  refine G.iload dL_isServeSo_205 rfl ?_
  refine G.if_eq 228 dL_isServeSo_207 rfl (fun c => ?_) (fun c => ?_)
  · replace h := (if_pos c).symm.trans h
    exact eb_xl_isServeSo_228  h
  · replace h := (if_neg c).symm.trans h
    refine G.iload dL_isServeSo_210 rfl ?_
    refine G.if_lt 228 dL_isServeSo_212 rfl (fun c => ?_) (fun c => ?_)
    · replace h := (if_pos c).symm.trans h
      exact eb_xl_isServeSo_228  h
    · replace h := (if_neg c).symm.trans h
      refine G.aload_n (i := 0) dL_isServeSo_215 rfl rfl ?_
      refine G.iconst dL_isServeSo_216 ki_0 ?_
      obtain ⟨v15, hv, h⟩ := bd h
      refine G.callV (e_xx_waiting hv) cs_L_isServeSo_X7_waiting ck7 shX_0 rfl rfl (Nat.le_of_ble_eq_true rfl) q646 q647 q648 dL_isServeSo_217 ?_
      refine G.iload_n (i := 1) dL_isServeSo_220 rfl rfl ?_
      refine G.icmp_ne 228 dL_isServeSo_221 rfl (fun c => ?_) (fun c => ?_)
      · replace h := (if_neg c).symm.trans h
        exact eb_xl_isServeSo_228  h
      · replace h := (if_pos c).symm.trans h
        refine G.iconst dL_isServeSo_224 ki_1 ?_
        refine G.goto 229 dL_isServeSo_225 rfl ?_
        exact eb_xl_isServeSo_229  h
set_option maxRecDepth 100000 in
theorem eb_xl_isServeSo_196 {x1 : Int} {o2 : Option PV} {o3 : Option PV} {o4 : Option PV} {o5 : Option PV} {o6 : Option PV} {o7 : Option PV} {o8 : Option PV} {μ : Mem} {res : (Int × Mem)} (h : xl_isServeSo_196 x1 μ = some res) : G shX l D ad ca YL_isServeSo 196 [some (.inr 0), some (.inl x1), o2, o3, o4, o5, o6, o7, o8] [] μ (some (.inl res.1)) res.2 := by
  rw [xl_isServeSo_196] at h
  refine G.iconst dL_isServeSo_196 ki_0 ?_
  exact eb_xl_isServeSo_197  h
set_option maxRecDepth 100000 in
theorem eb_xl_isServeSo_192 {x1 : Int} {o2 : Option PV} {o3 : Option PV} {o4 : Option PV} {o5 : Option PV} {o6 : Option PV} {o7 : Option PV} {o8 : Option PV} {μ : Mem} {res : (Int × Mem)} (h : xl_isServeSo_192 x1 μ = some res) : G shX l D ad ca YL_isServeSo 192 [some (.inr 0), some (.inl x1), o2, o3, o4, o5, o6, o7, o8] [] μ (some (.inl res.1)) res.2 := by
  rw [xl_isServeSo_192] at h
  refine G.iconst dL_isServeSo_192 ki_1 ?_
  refine G.goto 197 dL_isServeSo_193 rfl ?_
  exact eb_xl_isServeSo_197  h
set_option maxRecDepth 100000 in
theorem eb_xl_isServeSo_161 {x1 : Int} {x2 : Int} {x6 : Int} {s0 : Int} {s1 : Int} {s2 : Int} {o3 : Option PV} {o4 : Option PV} {o5 : Option PV} {o7 : Option PV} {o8 : Option PV} {μ : Mem} {res : (Int × Mem)} (h : xl_isServeSo_161 x1 x2 x6 s0 s1 s2 μ = some res) : G shX l D ad ca YL_isServeSo 161 [some (.inr 0), some (.inl x1), some (.inl x2), o3, o4, o5, some (.inl x6), o7, o8] [.inl s2, .inl s1, .inl s0] μ (some (.inl res.1)) res.2 := by
  rw [xl_isServeSo_161] at h
  refine G.iadd dL_isServeSo_161 ?_
  refine G.icmp_ne 196 dL_isServeSo_162 rfl (fun c => ?_) (fun c => ?_)
  · replace h := (if_neg c).symm.trans h
    exact eb_xl_isServeSo_196  h
  · replace h := (if_pos c).symm.trans h
    refine G.aload_n (i := 0) dL_isServeSo_165 rfl rfl ?_
    refine G.bipush dL_isServeSo_166 kb_6 ?_
    obtain ⟨p18, hv, h⟩ := bd h
    refine G.callV (e_xx_count hv) cs_L_isServeSo_X7_count ck7 shX_0 rfl rfl (Nat.le_of_ble_eq_true rfl) q264 q265 q266 dL_isServeSo_168 ?_
    refine G.iload dL_isServeSo_171 rfl ?_
    refine G.iconst dL_isServeSo_173 ki_1 ?_
    refine G.isub dL_isServeSo_174 ?_
    refine G.icmp_ne 196 dL_isServeSo_175 rfl (fun c => ?_) (fun c => ?_)
    · replace h := (if_neg c).symm.trans h
      exact eb_xl_isServeSo_196  h
    · replace h := (if_pos c).symm.trans h
      refine G.iload_n (i := 2) dL_isServeSo_178 rfl rfl ?_
      refine G.if_lt 192 dL_isServeSo_179 rfl (fun c => ?_) (fun c => ?_)
      · replace h := (if_pos c).symm.trans h
        exact eb_xl_isServeSo_192  h
      · replace h := (if_neg c).symm.trans h
        refine G.aload_n (i := 0) dL_isServeSo_182 rfl rfl ?_
        refine G.iload_n (i := 2) dL_isServeSo_183 rfl rfl ?_
        refine G.iconst dL_isServeSo_184 ki_0 ?_
        obtain ⟨p19, hv, h⟩ := bd h
        refine G.callV (e_xx_jarOf hv) cs_L_isServeSo_X7_jarOf ck7 shX_0 rfl rfl (Nat.le_of_ble_eq_true rfl) q469 q470 q471 dL_isServeSo_185 ?_
        refine G.iconst dL_isServeSo_188 ki_m1 ?_
        refine G.icmp_ne 196 dL_isServeSo_189 rfl (fun c => ?_) (fun c => ?_)
        · replace h := (if_neg c).symm.trans h
          exact eb_xl_isServeSo_196  h
        · replace h := (if_pos c).symm.trans h
          exact eb_xl_isServeSo_192  h
set_option maxRecDepth 100000 in
theorem eb_xl_isServeSo_98 {x1 : Int} {x2 : Int} {s0 : Int} {o3 : Option PV} {o4 : Option PV} {o5 : Option PV} {o6 : Option PV} {o7 : Option PV} {o8 : Option PV} {μ : Mem} {res : (Int × Mem)} (h : xl_isServeSo_98 x1 x2 s0 μ = some res) : G shX l D ad ca YL_isServeSo 98 [some (.inr 0), some (.inl x1), some (.inl x2), o3, o4, o5, o6, o7, o8] [.inl s0] μ (some (.inl res.1)) res.2 := by
  rw [xl_isServeSo_98] at h
  refine G.istore_n (i := 3) dL_isServeSo_98 rfl (Nat.le_of_ble_eq_true rfl) ?_
  refine G.aload_n (i := 0) dL_isServeSo_99 rfl rfl ?_
  refine G.bipush dL_isServeSo_100 kb_13 ?_
  obtain ⟨p6, hv, h⟩ := bd h
  refine G.callV (e_xx_count hv) cs_L_isServeSo_X7_count ck7 shX_0 rfl rfl (Nat.le_of_ble_eq_true rfl) q264 q265 q266 dL_isServeSo_102 ?_
  replace h := bnd_mp h
  refine G.istore dL_isServeSo_105 (Nat.le_of_ble_eq_true rfl) ?_
  refine G.aload_n (i := 0) dL_isServeSo_107 rfl rfl ?_
  refine G.bipush dL_isServeSo_108 kb_14 ?_
  obtain ⟨p8, hv, h⟩ := bd h
  refine G.callV (e_xx_count hv) cs_L_isServeSo_X7_count ck7 shX_0 rfl rfl (Nat.le_of_ble_eq_true rfl) q264 q265 q266 dL_isServeSo_110 ?_
  replace h := bnd_mp h
  refine G.istore dL_isServeSo_113 (Nat.le_of_ble_eq_true rfl) ?_
  refine G.aload_n (i := 0) dL_isServeSo_115 rfl rfl ?_
  refine G.bipush dL_isServeSo_116 kb_6 ?_
  obtain ⟨p10, hv, h⟩ := bd h
  refine G.callV (e_xx_count hv) cs_L_isServeSo_X7_count ck7 shX_0 rfl rfl (Nat.le_of_ble_eq_true rfl) q264 q265 q266 dL_isServeSo_118 ?_
  replace h := bnd_mp h
  refine G.istore dL_isServeSo_121 (Nat.le_of_ble_eq_true rfl) ?_
  refine G.aload_n (i := 0) dL_isServeSo_123 rfl rfl ?_
  obtain ⟨p12, hv, h⟩ := bd h
  refine G.callV (e_xx_serve hv) cs_L_isServeSo_X7_serve ck7 shX_0 rfl rfl (Nat.le_of_ble_eq_true rfl) q504 q505 q506 dL_isServeSo_124 ?_
  refine G.iload_n (i := 3) dL_isServeSo_127 rfl rfl ?_
  refine G.icmp_ne 196 dL_isServeSo_128 rfl (fun c => ?_) (fun c => ?_)
  · replace h := (if_neg c).symm.trans h
    exact eb_xl_isServeSo_196  h
  · replace h := (if_pos c).symm.trans h
    refine G.aload_n (i := 0) dL_isServeSo_131 rfl rfl ?_
    refine G.bipush dL_isServeSo_132 kb_13 ?_
    obtain ⟨p16, hv, h⟩ := bd h
    refine G.callV (e_xx_count hv) cs_L_isServeSo_X7_count ck7 shX_0 rfl rfl (Nat.le_of_ble_eq_true rfl) q264 q265 q266 dL_isServeSo_134 ?_
    refine G.iload dL_isServeSo_137 rfl ?_
    refine G.iload_n (i := 3) dL_isServeSo_139 rfl rfl ?_
    refine G.iadd dL_isServeSo_140 ?_
    refine G.icmp_ne 196 dL_isServeSo_141 rfl (fun c => ?_) (fun c => ?_)
    · replace h := (if_neg c).symm.trans h
      exact eb_xl_isServeSo_196  h
    · replace h := (if_pos c).symm.trans h
      refine G.aload_n (i := 0) dL_isServeSo_144 rfl rfl ?_
      refine G.bipush dL_isServeSo_145 kb_14 ?_
      obtain ⟨p17, hv, h⟩ := bd h
      refine G.callV (e_xx_count hv) cs_L_isServeSo_X7_count ck7 shX_0 rfl rfl (Nat.le_of_ble_eq_true rfl) q264 q265 q266 dL_isServeSo_147 ?_
      refine G.iload dL_isServeSo_150 rfl ?_
      refine G.iload_n (i := 2) dL_isServeSo_152 rfl rfl ?_
      refine G.if_ge 160 dL_isServeSo_153 rfl (fun c => ?_) (fun c => ?_)
      · replace h := (if_pos c).symm.trans h
        refine G.iconst dL_isServeSo_160 ki_1 ?_
        exact eb_xl_isServeSo_161  h
      · replace h := (if_neg c).symm.trans h
        refine G.iconst dL_isServeSo_156 ki_0 ?_
        refine G.goto 161 dL_isServeSo_157 rfl ?_
        exact eb_xl_isServeSo_161  h
set_option maxRecDepth 100000 in
theorem eb_xl_isServeSo_75 {x1 : Int} {x2 : Int} {o3 : Option PV} {o4 : Option PV} {o5 : Option PV} {o6 : Option PV} {o7 : Option PV} {o8 : Option PV} {μ : Mem} {res : (Int × Mem)} (h : xl_isServeSo_75 x1 x2 μ = some res) : G shX l D ad ca YL_isServeSo 75 [some (.inr 0), some (.inl x1), some (.inl x2), o3, o4, o5, o6, o7, o8] [] μ (some (.inl res.1)) res.2 := by
  rw [xl_isServeSo_75] at h
  refine G.iload_n (i := 2) dL_isServeSo_75 rfl rfl ?_
  refine G.if_ge 83 dL_isServeSo_76 rfl (fun c => ?_) (fun c => ?_)
  · replace h := (if_pos c).symm.trans h
    refine G.aload_n (i := 0) dL_isServeSo_83 rfl rfl ?_
    refine G.iload_n (i := 2) dL_isServeSo_84 rfl rfl ?_
    refine G.iconst dL_isServeSo_85 ki_2 ?_
    obtain ⟨p4, hv, h⟩ := bd h
    refine G.callV (e_xx_jarOf hv) cs_L_isServeSo_X7_jarOf ck7 shX_0 rfl rfl (Nat.le_of_ble_eq_true rfl) q469 q470 q471 dL_isServeSo_86 ?_
    refine G.aload_n (i := 0) dL_isServeSo_89 rfl rfl ?_
    refine G.iload_n (i := 2) dL_isServeSo_90 rfl rfl ?_
    refine G.iconst dL_isServeSo_91 ki_2 ?_
    obtain ⟨p5, hv, h⟩ := bd h
    refine G.callV (e_xx_jarOf hv) cs_L_isServeSo_X7_jarOf ck7 shX_0 rfl rfl (Nat.le_of_ble_eq_true rfl) q469 q470 q471 dL_isServeSo_92 ?_
    refine G.iconst dL_isServeSo_95 ki_2 ?_
    refine G.idiv dL_isServeSo_96 (by decide) ?_
    refine G.iadd dL_isServeSo_97 ?_
    exact eb_xl_isServeSo_98  h
  · replace h := (if_neg c).symm.trans h
    refine G.iconst dL_isServeSo_79 ki_0 ?_
    refine G.goto 98 dL_isServeSo_80 rfl ?_
    exact eb_xl_isServeSo_98  h
set_option maxRecDepth 100000 in
theorem eb_xl_isServeSo_68 {K35 : Int → Int → Int → Mem → Option (Int × Mem)} (hK35 : ∀ (x1 : Int) (x2 : Int) (x3 : Int) (o4 : Option PV) (o5 : Option PV) (o6 : Option PV) (o7 : Option PV) (o8 : Option PV) (μ : Mem) (res : (Int × Mem)), K35 x1 x2 x3 μ = some res → G shX l D ad ca YL_isServeSo 35 [some (.inr 0), some (.inl x1), some (.inl x2), some (.inl x3), o4, o5, o6, o7, o8] [] μ (some (.inl res.1)) res.2) {x1 : Int} {x3 : Int} {s0 : Int} {o2 : Option PV} {o4 : Option PV} {o5 : Option PV} {o6 : Option PV} {o7 : Option PV} {o8 : Option PV} {μ : Mem} {res : (Int × Mem)} (h : xl_isServeSo_68 K35 x1 x3 s0 μ = some res) : G shX l D ad ca YL_isServeSo 68 [some (.inr 0), some (.inl x1), o2, some (.inl x3), o4, o5, o6, o7, o8] [.inl s0] μ (some (.inl res.1)) res.2 := by
  rw [xl_isServeSo_68] at h
  refine G.istore_n (i := 2) dL_isServeSo_68 rfl (Nat.le_of_ble_eq_true rfl) ?_
  replace h := bnd_mp h
  refine G.iinc dL_isServeSo_69 rfl (Nat.le_of_ble_eq_true rfl) ?_
  refine G.goto 35 dL_isServeSo_72 rfl ?_
  exact hK35 _ _ _ _ _ _ _ _ _ _ h
set_option maxRecDepth 100000 in
theorem eb_xl_isServeSo_35 : ∀ (n : Nat) (x1 : Int) (x2 : Int) (x3 : Int) (o4 : Option PV) (o5 : Option PV) (o6 : Option PV) (o7 : Option PV) (o8 : Option PV) (μ : Mem) (res : (Int × Mem)), xl_isServeSo_35 n x1 x2 x3 μ = some res → G shX l D ad ca YL_isServeSo 35 [some (.inr 0), some (.inl x1), some (.inl x2), some (.inl x3), o4, o5, o6, o7, o8] [] μ (some (.inl res.1)) res.2 := by
  intro n
  induction n with
  | zero =>
    intro x1 x2 x3 o4 o5 o6 o7 o8 μ res h
    rw [xl_isServeSo_35] at h
    cases h
  | succ n ih =>
    intro x1 x2 x3 o4 o5 o6 o7 o8 μ res h
    rw [xl_isServeSo_35] at h
    refine G.iload_n (i := 3) dL_isServeSo_35 rfl rfl ?_
    refine G.if_lt 75 dL_isServeSo_36 rfl (fun c => ?_) (fun c => ?_)
    · replace h := (if_pos c).symm.trans h
      exact eb_xl_isServeSo_75  h
    · replace h := (if_neg c).symm.trans h
      refine G.aload_n (i := 0) dL_isServeSo_39 rfl rfl ?_
      refine G.iload_n (i := 1) dL_isServeSo_40 rfl rfl ?_
      refine G.aload_n (i := 0) dL_isServeSo_41 rfl rfl ?_
      refine G.aload_n (i := 0) dL_isServeSo_42 rfl rfl ?_
      refine G.iload_n (i := 3) dL_isServeSo_43 rfl rfl ?_
      obtain ⟨v20, hv, h⟩ := bd h
      refine G.callV (e_xx_ranked hv) cs_L_isServeSo_X7_ranked ck7 shX_0 rfl rfl (Nat.le_of_ble_eq_true rfl) q346 q347 q348 dL_isServeSo_44 ?_
      refine G.iconst dL_isServeSo_47 ki_0 ?_
      obtain ⟨p21, hv, h⟩ := bd h
      refine G.callV (e_xx_jarOf hv) cs_L_isServeSo_X7_jarOf ck7 shX_0 rfl rfl (Nat.le_of_ble_eq_true rfl) q469 q470 q471 dL_isServeSo_48 ?_
      refine G.iconst dL_isServeSo_51 ki_1 ?_
      obtain ⟨p22, hv, h⟩ := bd h
      refine G.callV (e_xx_alike hv) cs_L_isServeSo_X7_alike ck7 shX_0 rfl rfl (Nat.le_of_ble_eq_true rfl) q565 q566 q567 dL_isServeSo_52 ?_
      refine G.iconst dL_isServeSo_55 ki_1 ?_
      refine G.icmp_ne 67 dL_isServeSo_56 rfl (fun c => ?_) (fun c => ?_)
      · replace h := (if_neg c).symm.trans h
        refine G.iload_n (i := 2) dL_isServeSo_67 rfl rfl ?_
        exact eb_xl_isServeSo_68 ih h
      · replace h := (if_pos c).symm.trans h
        refine G.aload_n (i := 0) dL_isServeSo_59 rfl rfl ?_
        refine G.iload_n (i := 3) dL_isServeSo_60 rfl rfl ?_
        obtain ⟨v24, hv, h⟩ := bd h
        refine G.callV (e_xx_ranked hv) cs_L_isServeSo_X7_ranked ck7 shX_0 rfl rfl (Nat.le_of_ble_eq_true rfl) q346 q347 q348 dL_isServeSo_61 ?_
        refine G.goto 68 dL_isServeSo_64 rfl ?_
        exact eb_xl_isServeSo_68 ih h
set_option maxRecDepth 100000 in
theorem eb_xl_isServeSo_24 {s0 : Int} {o1 : Option PV} {o2 : Option PV} {o3 : Option PV} {o4 : Option PV} {o5 : Option PV} {o6 : Option PV} {o7 : Option PV} {o8 : Option PV} {μ : Mem} {res : (Int × Mem)} (h : xl_isServeSo_24 s0 μ = some res) : G shX l D ad ca YL_isServeSo 24 [some (.inr 0), o1, o2, o3, o4, o5, o6, o7, o8] [.inl s0] μ (some (.inl res.1)) res.2 := by
  rw [xl_isServeSo_24] at h
  obtain ⟨hz, h⟩ := ite_yn h
  cases h
  exact G.zret .boolean dL_isServeSo_24 rfl (nar_z hz)
set_option maxRecDepth 100000 in
theorem e_xl_isServeSo {μ : Mem} {res : (Int × Mem)} (h : xl_isServeSo μ = some res) : GM shX l D ad ca YL_isServeSo [.inr 0] μ (some (.inl res.1)) res.2 := by
  refine GM.of (L := [some (.inr 0), none, none, none, none, none, none, none, none]) (by decide +kernel) rfl (Nat.le_of_ble_eq_true rfl) ?_
  rw [xl_isServeSo] at h
  refine G.aload_n (i := 0) dL_isServeSo_0 rfl rfl ?_
  refine G.iconst dL_isServeSo_1 ki_0 ?_
  obtain ⟨v1, hv, h⟩ := bd h
  refine G.callV (e_xx_waiting hv) cs_L_isServeSo_X7_waiting ck7 shX_0 rfl rfl (Nat.le_of_ble_eq_true rfl) q646 q647 q648 dL_isServeSo_2 ?_
  refine G.istore_n (i := 1) dL_isServeSo_5 rfl (Nat.le_of_ble_eq_true rfl) ?_
  refine G.iload_n (i := 1) dL_isServeSo_6 rfl rfl ?_
  refine G.if_ge 25 dL_isServeSo_7 rfl (fun c => ?_) (fun c => ?_)
  · replace h := (if_pos c).symm.trans h
    refine G.iconst dL_isServeSo_25 ki_m1 ?_
    refine G.istore_n (i := 2) dL_isServeSo_26 rfl (Nat.le_of_ble_eq_true rfl) ?_
    refine G.aload_n (i := 0) dL_isServeSo_27 rfl rfl ?_
    refine G.iconst dL_isServeSo_28 ki_0 ?_
    obtain ⟨p2, hv, h⟩ := bd h
    refine G.callV (e_xx_count hv) cs_L_isServeSo_X7_count ck7 shX_0 rfl rfl (Nat.le_of_ble_eq_true rfl) q264 q265 q266 dL_isServeSo_29 ?_
    refine G.iconst dL_isServeSo_32 ki_1 ?_
    refine G.isub dL_isServeSo_33 ?_
    replace h := bnd_mp h
    refine G.istore_n (i := 3) dL_isServeSo_34 rfl (Nat.le_of_ble_eq_true rfl) ?_
    exact eb_xl_isServeSo_35  _ _ _ _ _ _ _ _ _ _ _ h
  · replace h := (if_neg c).symm.trans h
    refine G.aload_n (i := 0) dL_isServeSo_10 rfl rfl ?_
    obtain ⟨p25, hv, h⟩ := bd h
    refine G.callV (e_xx_serve hv) cs_L_isServeSo_X7_serve ck7 shX_0 rfl rfl (Nat.le_of_ble_eq_true rfl) q504 q505 q506 dL_isServeSo_11 ?_
    refine G.bipush dL_isServeSo_14 kb_m5 ?_
    refine G.icmp_ne 23 dL_isServeSo_16 rfl (fun c => ?_) (fun c => ?_)
    · replace h := (if_neg c).symm.trans h
      refine G.iconst dL_isServeSo_23 ki_0 ?_
      exact eb_xl_isServeSo_24  h
    · replace h := (if_pos c).symm.trans h
      refine G.iconst dL_isServeSo_19 ki_1 ?_
      refine G.goto 24 dL_isServeSo_20 rfl ?_
      exact eb_xl_isServeSo_24  h
end DD
