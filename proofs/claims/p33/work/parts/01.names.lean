-- ===== PART A: goes FIRST, ahead of the names: the tables' words, and 'selects' of the private methods out of them =====
/-- a private method of a class that the tables say can be made, by its rows of tables_1 -/
def lw_okq (q : MethodName × Nat) : Prop := (q.1.cls ≠ "java/lang/invoke/MethodHandle" ∧ q.1.cls ≠ "java/lang/invoke/VarHandle") ∧ Cond.instantiable q.1.cls q.2 ∈ tables_1 ∧ Cond.privateMethod q.1 ∈ tables_1 ∧ Cond.instanceMethod q.1 ∈ tables_1
theorem lw_p0 : lw_okq (⟨"SpiceThrees", "strength", "()I"⟩, 9) := ⟨⟨by decide +kernel, by decide +kernel⟩, List.mem_of_getElem? (i := 14) (by decide +kernel), List.mem_of_getElem? (i := 249) (by decide +kernel), List.mem_of_getElem? (i := 250) (by decide +kernel)⟩
theorem lw_p1 : lw_okq (⟨"SpiceThrees$Tastes", "isLearned", "(LSpiceThrees$Shop;)Z"⟩, 9) := ⟨⟨by decide +kernel, by decide +kernel⟩, List.mem_of_getElem? (i := 33) (by decide +kernel), List.mem_of_getElem? (i := 257) (by decide +kernel), List.mem_of_getElem? (i := 258) (by decide +kernel)⟩
theorem lw_p2 : lw_okq (⟨"SpiceThrees$Tastes", "findLeads", "([II)I"⟩, 9) := ⟨⟨by decide +kernel, by decide +kernel⟩, List.mem_of_getElem? (i := 33) (by decide +kernel), List.mem_of_getElem? (i := 264) (by decide +kernel), List.mem_of_getElem? (i := 265) (by decide +kernel)⟩
theorem lw_p3 : lw_okq (⟨"SpiceThrees$Tastes", "reduced", "([II)I"⟩, 9) := ⟨⟨by decide +kernel, by decide +kernel⟩, List.mem_of_getElem? (i := 33) (by decide +kernel), List.mem_of_getElem? (i := 271) (by decide +kernel), List.mem_of_getElem? (i := 272) (by decide +kernel)⟩
theorem lw_p4 : lw_okq (⟨"SpiceThrees$Tastes", "collectParts", "()V"⟩, 9) := ⟨⟨by decide +kernel, by decide +kernel⟩, List.mem_of_getElem? (i := 33) (by decide +kernel), List.mem_of_getElem? (i := 289) (by decide +kernel), List.mem_of_getElem? (i := 290) (by decide +kernel)⟩
theorem lw_p5 : lw_okq (⟨"SpiceThrees", "shelves", "()I"⟩, 9) := ⟨⟨by decide +kernel, by decide +kernel⟩, List.mem_of_getElem? (i := 14) (by decide +kernel), List.mem_of_getElem? (i := 294) (by decide +kernel), List.mem_of_getElem? (i := 295) (by decide +kernel)⟩
theorem lw_p6 : lw_okq (⟨"SpiceThrees", "nextShelf", "(I)I"⟩, 9) := ⟨⟨by decide +kernel, by decide +kernel⟩, List.mem_of_getElem? (i := 14) (by decide +kernel), List.mem_of_getElem? (i := 298) (by decide +kernel), List.mem_of_getElem? (i := 299) (by decide +kernel)⟩
theorem lw_p7 : lw_okq (⟨"SpiceThrees", "unitsInJars", "()I"⟩, 9) := ⟨⟨by decide +kernel, by decide +kernel⟩, List.mem_of_getElem? (i := 14) (by decide +kernel), List.mem_of_getElem? (i := 306) (by decide +kernel), List.mem_of_getElem? (i := 307) (by decide +kernel)⟩
theorem lw_p8 : lw_okq (⟨"SpiceThrees", "accountTold", "(I)I"⟩, 9) := ⟨⟨by decide +kernel, by decide +kernel⟩, List.mem_of_getElem? (i := 14) (by decide +kernel), List.mem_of_getElem? (i := 313) (by decide +kernel), List.mem_of_getElem? (i := 314) (by decide +kernel)⟩
theorem lw_p9 : lw_okq (⟨"SpiceThrees", "ended", "(I)I"⟩, 9) := ⟨⟨by decide +kernel, by decide +kernel⟩, List.mem_of_getElem? (i := 14) (by decide +kernel), List.mem_of_getElem? (i := 371) (by decide +kernel), List.mem_of_getElem? (i := 372) (by decide +kernel)⟩
theorem lw_p10 : lw_okq (⟨"SpiceThrees$Acts", "mixInto", "(II)I"⟩, 4) := ⟨⟨by decide +kernel, by decide +kernel⟩, List.mem_of_getElem? (i := 148) (by decide +kernel), List.mem_of_getElem? (i := 394) (by decide +kernel), List.mem_of_getElem? (i := 395) (by decide +kernel)⟩
theorem lw_p11 : lw_okq (⟨"SpiceThrees", "tasteOf", "(I)I"⟩, 9) := ⟨⟨by decide +kernel, by decide +kernel⟩, List.mem_of_getElem? (i := 14) (by decide +kernel), List.mem_of_getElem? (i := 456) (by decide +kernel), List.mem_of_getElem? (i := 457) (by decide +kernel)⟩
theorem lw_p12 : lw_okq (⟨"SpiceThrees", "cheapestLike", "(I)I"⟩, 9) := ⟨⟨by decide +kernel, by decide +kernel⟩, List.mem_of_getElem? (i := 14) (by decide +kernel), List.mem_of_getElem? (i := 460) (by decide +kernel), List.mem_of_getElem? (i := 461) (by decide +kernel)⟩
theorem lw_p13 : lw_okq (⟨"SpiceThrees$Tastes", "fillCosts", "([I)V"⟩, 9) := ⟨⟨by decide +kernel, by decide +kernel⟩, List.mem_of_getElem? (i := 33) (by decide +kernel), List.mem_of_getElem? (i := 468) (by decide +kernel), List.mem_of_getElem? (i := 469) (by decide +kernel)⟩
theorem lw_p14 : lw_okq (⟨"SpiceThrees$Tastes", "nextLike", "(II)I"⟩, 9) := ⟨⟨by decide +kernel, by decide +kernel⟩, List.mem_of_getElem? (i := 33) (by decide +kernel), List.mem_of_getElem? (i := 473) (by decide +kernel), List.mem_of_getElem? (i := 474) (by decide +kernel)⟩
theorem lw_p15 : lw_okq (⟨"SpiceThrees$Acts", "sell", "(I)I"⟩, 4) := ⟨⟨by decide +kernel, by decide +kernel⟩, List.mem_of_getElem? (i := 148) (by decide +kernel), List.mem_of_getElem? (i := 504) (by decide +kernel), List.mem_of_getElem? (i := 505) (by decide +kernel)⟩
def lw_privs_1 : List (MethodName × Nat) := [(⟨"SpiceThrees", "strength", "()I"⟩, 9), (⟨"SpiceThrees$Tastes", "isLearned", "(LSpiceThrees$Shop;)Z"⟩, 9), (⟨"SpiceThrees$Tastes", "findLeads", "([II)I"⟩, 9), (⟨"SpiceThrees$Tastes", "reduced", "([II)I"⟩, 9), (⟨"SpiceThrees$Tastes", "collectParts", "()V"⟩, 9), (⟨"SpiceThrees", "shelves", "()I"⟩, 9), (⟨"SpiceThrees", "nextShelf", "(I)I"⟩, 9), (⟨"SpiceThrees", "unitsInJars", "()I"⟩, 9), (⟨"SpiceThrees", "accountTold", "(I)I"⟩, 9), (⟨"SpiceThrees", "ended", "(I)I"⟩, 9), (⟨"SpiceThrees$Acts", "mixInto", "(II)I"⟩, 4), (⟨"SpiceThrees", "tasteOf", "(I)I"⟩, 9), (⟨"SpiceThrees", "cheapestLike", "(I)I"⟩, 9), (⟨"SpiceThrees$Tastes", "fillCosts", "([I)V"⟩, 9), (⟨"SpiceThrees$Tastes", "nextLike", "(II)I"⟩, 9), (⟨"SpiceThrees$Acts", "sell", "(I)I"⟩, 4)]
theorem lw_r1 : ∀ q ∈ lw_privs_1, lw_okq q := List.forall_mem_cons.mpr ⟨lw_p0, List.forall_mem_cons.mpr ⟨lw_p1, List.forall_mem_cons.mpr ⟨lw_p2, List.forall_mem_cons.mpr ⟨lw_p3, List.forall_mem_cons.mpr ⟨lw_p4, List.forall_mem_cons.mpr ⟨lw_p5, List.forall_mem_cons.mpr ⟨lw_p6, List.forall_mem_cons.mpr ⟨lw_p7, List.forall_mem_cons.mpr ⟨lw_p8, List.forall_mem_cons.mpr ⟨lw_p9, List.forall_mem_cons.mpr ⟨lw_p10, List.forall_mem_cons.mpr ⟨lw_p11, List.forall_mem_cons.mpr ⟨lw_p12, List.forall_mem_cons.mpr ⟨lw_p13, List.forall_mem_cons.mpr ⟨lw_p14, List.forall_mem_cons.mpr ⟨lw_p15, fun _ h => absurd h List.not_mem_nil⟩⟩⟩⟩⟩⟩⟩⟩⟩⟩⟩⟩⟩⟩⟩⟩
theorem lw_p16 : lw_okq (⟨"SpiceThrees", "jarsLike", "(I)I"⟩, 9) := ⟨⟨by decide +kernel, by decide +kernel⟩, List.mem_of_getElem? (i := 14) (by decide +kernel), List.mem_of_getElem? (i := 517) (by decide +kernel), List.mem_of_getElem? (i := 518) (by decide +kernel)⟩
theorem lw_p17 : lw_okq (⟨"SpiceThrees", "tasteOfShelf", "(I)I"⟩, 9) := ⟨⟨by decide +kernel, by decide +kernel⟩, List.mem_of_getElem? (i := 14) (by decide +kernel), List.mem_of_getElem? (i := 525) (by decide +kernel), List.mem_of_getElem? (i := 526) (by decide +kernel)⟩
theorem lw_p18 : lw_okq (⟨"SpiceThrees", "lowestJarLike", "(I)I"⟩, 9) := ⟨⟨by decide +kernel, by decide +kernel⟩, List.mem_of_getElem? (i := 14) (by decide +kernel), List.mem_of_getElem? (i := 529) (by decide +kernel), List.mem_of_getElem? (i := 530) (by decide +kernel)⟩
theorem lw_p19 : lw_okq (⟨"SpiceThrees", "cheapestJarLike", "(I)I"⟩, 9) := ⟨⟨by decide +kernel, by decide +kernel⟩, List.mem_of_getElem? (i := 14) (by decide +kernel), List.mem_of_getElem? (i := 534) (by decide +kernel), List.mem_of_getElem? (i := 535) (by decide +kernel)⟩
def lw_privs_2 : List (MethodName × Nat) := [(⟨"SpiceThrees", "jarsLike", "(I)I"⟩, 9), (⟨"SpiceThrees", "tasteOfShelf", "(I)I"⟩, 9), (⟨"SpiceThrees", "lowestJarLike", "(I)I"⟩, 9), (⟨"SpiceThrees", "cheapestJarLike", "(I)I"⟩, 9)]
theorem lw_r2 : ∀ q ∈ lw_privs_2, lw_okq q := List.forall_mem_cons.mpr ⟨lw_p16, List.forall_mem_cons.mpr ⟨lw_p17, List.forall_mem_cons.mpr ⟨lw_p18, List.forall_mem_cons.mpr ⟨lw_p19, fun _ h => absurd h List.not_mem_nil⟩⟩⟩⟩
def lw_privs : List (MethodName × Nat) := lw_privs_1 ++ (lw_privs_2)
def lw_tbl : List Cond := k2_sels lw_privs ++ tables_1
theorem lw_privs_ok : ∀ q ∈ lw_privs, lw_okq q := by
  show ∀ q ∈ lw_privs_1 ++ (lw_privs_2), lw_okq q
  exact List.forall_mem_append.mpr ⟨lw_r1, lw_r2⟩
def RX0 : String := "SpiceThrees$Acts"
def TX0 : u_T := fun k => match k with
  | 0 => ("SpiceThrees$Acts", "shop", "LSpiceThrees$Shop;", true)
  | 1 => ("SpiceThrees$Acts", "mixes", "LSpiceThrees$Mixes;", true)
  | 2 => ("SpiceThrees$Acts", "tastes", "LSpiceThrees$Tastes;", true)
  | _ => ("SpiceThrees$Acts", "amounts", "[I", true)
def tyX0 : Nat → FieldType := fun k => match k with
  | 0 => .object "SpiceThrees$Shop"
  | 1 => .object "SpiceThrees$Mixes"
  | 2 => .object "SpiceThrees$Tastes"
  | _ => .array .int
abbrev wsX00 : List Cond := u_ws RX0 TX0 4
theorem nmX0 : ∀ a, a < 4 → ∀ b, b < 4 → a ≠ b → (TX0 a).2.1 ≠ (TX0 b).2.1 := by decide +kernel
theorem tyX0_ok : ∀ k, k < 4 → parseFieldDescriptor (TX0 k).2.2.1 = some (tyX0 k) := by decide +kernel
abbrev cX0_init : ByteArray := prog_2_method_1_code
def yX0_init : MethodName := ⟨RX0, "<init>", "(LSpiceThrees$Shop;LSpiceThrees$Mixes;LSpiceThrees$Tastes;)V"⟩
abbrev cX0_bring : ByteArray := prog_2_method_2_code
def yX0_bring : MethodName := ⟨RX0, "bring", "(I)I"⟩
abbrev cX0_bringUnits : ByteArray := prog_2_method_3_code
def yX0_bringUnits : MethodName := ⟨RX0, "bringUnits", "([I)I"⟩
abbrev cX0_pourInto : ByteArray := prog_2_method_4_code
def yX0_pourInto : MethodName := ⟨RX0, "pourInto", "(II)I"⟩
abbrev cX0_buyAgain : ByteArray := prog_2_method_5_code
def yX0_buyAgain : MethodName := ⟨RX0, "buyAgain", "(I)I"⟩
abbrev cX0_mixInto : ByteArray := prog_2_method_6_code
def yX0_mixInto : MethodName := ⟨RX0, "mixInto", "(II)I"⟩
abbrev cX0_throwOut : ByteArray := prog_2_method_7_code
def yX0_throwOut : MethodName := ⟨RX0, "throwOut", "(I)I"⟩
abbrev cX0_makeBland : ByteArray := prog_2_method_8_code
def yX0_makeBland : MethodName := ⟨RX0, "makeBland", "(I)I"⟩
abbrev cX0_dropRule : ByteArray := prog_2_method_9_code
def yX0_dropRule : MethodName := ⟨RX0, "dropRule", "(I)I"⟩
abbrev cX0_setPrice : ByteArray := prog_2_method_10_code
def yX0_setPrice : MethodName := ⟨RX0, "setPrice", "(II)I"⟩
abbrev cX0_welcome : ByteArray := prog_2_method_11_code
def yX0_welcome : MethodName := ⟨RX0, "welcome", "(I)I"⟩
abbrev cX0_serveFirst : ByteArray := prog_2_method_12_code
def yX0_serveFirst : MethodName := ⟨RX0, "serveFirst", "()I"⟩
abbrev cX0_sell : ByteArray := prog_2_method_13_code
def yX0_sell : MethodName := ⟨RX0, "sell", "(I)I"⟩
def RX1 : String := "SpiceThrees$Choices"
def TX1 : u_T := fun k => match k with
  | 0 => ("SpiceThrees$Choices", "mixes", "LSpiceThrees$Mixes;", true)
  | 1 => ("SpiceThrees$Choices", "sums", "[S", true)
  | 2 => ("SpiceThrees$Choices", "sets", "I", false)
  | _ => ("SpiceThrees$Choices", "seen", "[I", true)
def tyX1 : Nat → FieldType := fun k => match k with
  | 0 => .object "SpiceThrees$Mixes"
  | 1 => .array .short
  | 2 => .int
  | _ => .array .int
abbrev wsX10 : List Cond := u_ws RX1 TX1 4
theorem nmX1 : ∀ a, a < 4 → ∀ b, b < 4 → a ≠ b → (TX1 a).2.1 ≠ (TX1 b).2.1 := by decide +kernel
theorem tyX1_ok : ∀ k, k < 4 → parseFieldDescriptor (TX1 k).2.2.1 = some (tyX1 k) := by decide +kernel
abbrev cX1_init : ByteArray := prog_3_method_1_code
def yX1_init : MethodName := ⟨RX1, "<init>", "(LSpiceThrees$Mixes;)V"⟩
abbrev cX1_spread : ByteArray := prog_3_method_2_code
def yX1_spread : MethodName := ⟨RX1, "spread", "(LSpiceThrees$Tastes;LSpiceThrees$Shop;)V"⟩
abbrev cX1_smallestLike : ByteArray := prog_3_method_3_code
def yX1_smallestLike : MethodName := ⟨RX1, "smallestLike", "(I)I"⟩
abbrev cX1_differentTastes : ByteArray := prog_3_method_4_code
def yX1_differentTastes : MethodName := ⟨RX1, "differentTastes", "()I"⟩
def RX2 : String := "SpiceThrees$History"
def TX2 : u_T := fun k => match k with
  | 0 => ("SpiceThrees$History", "rows", "[LSpiceThrees$Shop;", true)
  | 1 => ("SpiceThrees$History", "next", "I", false)
  | _ => ("SpiceThrees$History", "size", "I", false)
def tyX2 : Nat → FieldType := fun k => match k with
  | 0 => .array (.object "SpiceThrees$Shop")
  | 1 => .int
  | _ => .int
abbrev wsX20 : List Cond := u_ws RX2 TX2 3
theorem nmX2 : ∀ a, a < 3 → ∀ b, b < 3 → a ≠ b → (TX2 a).2.1 ≠ (TX2 b).2.1 := by decide +kernel
theorem tyX2_ok : ∀ k, k < 3 → parseFieldDescriptor (TX2 k).2.2.1 = some (tyX2 k) := by decide +kernel
abbrev cX2_init : ByteArray := prog_4_method_1_code
def yX2_init : MethodName := ⟨RX2, "<init>", "()V"⟩
abbrev cX2_prepare : ByteArray := prog_4_method_2_code
def yX2_prepare : MethodName := ⟨RX2, "prepare", "(LSpiceThrees$Shop;)V"⟩
abbrev cX2_takeBack : ByteArray := prog_4_method_3_code
def yX2_takeBack : MethodName := ⟨RX2, "takeBack", "(LSpiceThrees$Shop;)V"⟩
abbrev cX2_record : ByteArray := prog_4_method_4_code
def yX2_record : MethodName := ⟨RX2, "record", "()V"⟩
abbrev cX2_stepBack : ByteArray := prog_4_method_5_code
def yX2_stepBack : MethodName := ⟨RX2, "stepBack", "(LSpiceThrees$Shop;)I"⟩
def RX3 : String := "SpiceThrees$Mixes"
def TX3 : u_T := fun k => match k with
  | _ => ("SpiceThrees$Mixes", "sums", "[B", true)
def tyX3 : Nat → FieldType := fun k => match k with
  | _ => .array .byte
abbrev wsX30 : List Cond := u_ws RX3 TX3 1
theorem nmX3 : ∀ a, a < 1 → ∀ b, b < 1 → a ≠ b → (TX3 a).2.1 ≠ (TX3 b).2.1 := by decide +kernel
theorem tyX3_ok : ∀ k, k < 1 → parseFieldDescriptor (TX3 k).2.2.1 = some (tyX3 k) := by decide +kernel
abbrev cX3_init : ByteArray := prog_5_method_1_code
def yX3_init : MethodName := ⟨RX3, "<init>", "()V"⟩
abbrev cX3_join : ByteArray := prog_5_method_2_code
def yX3_join : MethodName := ⟨RX3, "join", "(II)I"⟩
abbrev cX3_twice : ByteArray := prog_5_method_3_code
def yX3_twice : MethodName := ⟨RX3, "twice", "(I)I"⟩
def RX4 : String := "SpiceThrees$Shop"
def TX4 : u_T := fun k => match k with
  | 0 => ("SpiceThrees$Shop", "numbers", "[I", true)
  | 1 => ("SpiceThrees$Shop", "mixes", "[I", true)
  | 2 => ("SpiceThrees$Shop", "jars", "I", false)
  | 3 => ("SpiceThrees$Shop", "came", "I", false)
  | 4 => ("SpiceThrees$Shop", "rules", "[I", true)
  | 5 => ("SpiceThrees$Shop", "ruled", "I", false)
  | 6 => ("SpiceThrees$Shop", "prices", "[I", true)
  | 7 => ("SpiceThrees$Shop", "wants", "[I", true)
  | 8 => ("SpiceThrees$Shop", "waits", "I", false)
  | _ => ("SpiceThrees$Shop", "accounts", "[I", true)
def tyX4 : Nat → FieldType := fun k => match k with
  | 0 => .array .int
  | 1 => .array .int
  | 2 => .int
  | 3 => .int
  | 4 => .array .int
  | 5 => .int
  | 6 => .array .int
  | 7 => .array .int
  | 8 => .int
  | _ => .array .int
abbrev wsX40 : List Cond := u_ws RX4 TX4 10
theorem nmX4 : ∀ a, a < 10 → ∀ b, b < 10 → a ≠ b → (TX4 a).2.1 ≠ (TX4 b).2.1 := by decide +kernel
theorem tyX4_ok : ∀ k, k < 10 → parseFieldDescriptor (TX4 k).2.2.1 = some (tyX4 k) := by decide +kernel
abbrev cX4_init : ByteArray := prog_6_method_1_code
def yX4_init : MethodName := ⟨RX4, "<init>", "()V"⟩
abbrev cX4_copyFrom : ByteArray := prog_6_method_2_code
def yX4_copyFrom : MethodName := ⟨RX4, "copyFrom", "(LSpiceThrees$Shop;)V"⟩
abbrev cX4_placeOf : ByteArray := prog_6_method_3_code
def yX4_placeOf : MethodName := ⟨RX4, "placeOf", "(I)I"⟩
abbrev cX4_hasRoomForJar : ByteArray := prog_6_method_4_code
def yX4_hasRoomForJar : MethodName := ⟨RX4, "hasRoomForJar", "()Z"⟩
abbrev cX4_addJar : ByteArray := prog_6_method_5_code
def yX4_addJar : MethodName := ⟨RX4, "addJar", "(I)I"⟩
abbrev cX4_removeJar : ByteArray := prog_6_method_6_code
def yX4_removeJar : MethodName := ⟨RX4, "removeJar", "(I)V"⟩
abbrev cX4_removeRule : ByteArray := prog_6_method_7_code
def yX4_removeRule : MethodName := ⟨RX4, "removeRule", "(I)V"⟩
abbrev cX4_removeFirstWant : ByteArray := prog_6_method_8_code
def yX4_removeFirstWant : MethodName := ⟨RX4, "removeFirstWant", "()I"⟩
def RX5 : String := "SpiceThrees$Tastes"
def TX5 : u_T := fun k => match k with
  | 0 => ("SpiceThrees$Tastes", "mixes", "LSpiceThrees$Mixes;", true)
  | 1 => ("SpiceThrees$Tastes", "rules", "[I", true)
  | 2 => ("SpiceThrees$Tastes", "ruled", "I", false)
  | 3 => ("SpiceThrees$Tastes", "strength", "I", false)
  | 4 => ("SpiceThrees$Tastes", "leads", "[I", true)
  | 5 => ("SpiceThrees$Tastes", "trial", "[I", true)
  | 6 => ("SpiceThrees$Tastes", "parts", "[I", true)
  | 7 => ("SpiceThrees$Tastes", "lowCosts", "[I", true)
  | _ => ("SpiceThrees$Tastes", "highCosts", "[I", true)
def tyX5 : Nat → FieldType := fun k => match k with
  | 0 => .object "SpiceThrees$Mixes"
  | 1 => .array .int
  | 2 => .int
  | 3 => .int
  | 4 => .array .int
  | 5 => .array .int
  | 6 => .array .int
  | 7 => .array .int
  | _ => .array .int
abbrev wsX50 : List Cond := u_ws RX5 TX5 9
theorem nmX5 : ∀ a, a < 9 → ∀ b, b < 9 → a ≠ b → (TX5 a).2.1 ≠ (TX5 b).2.1 := by decide +kernel
theorem tyX5_ok : ∀ k, k < 9 → parseFieldDescriptor (TX5 k).2.2.1 = some (tyX5 k) := by decide +kernel
abbrev cX5_init : ByteArray := prog_7_method_1_code
def yX5_init : MethodName := ⟨RX5, "<init>", "(LSpiceThrees$Mixes;)V"⟩
abbrev cX5_learn : ByteArray := prog_7_method_2_code
def yX5_learn : MethodName := ⟨RX5, "learn", "(LSpiceThrees$Shop;)V"⟩
abbrev cX5_isLearned : ByteArray := prog_7_method_3_code
def yX5_isLearned : MethodName := ⟨RX5, "isLearned", "(LSpiceThrees$Shop;)Z"⟩
abbrev cX5_findLeads : ByteArray := prog_7_method_4_code
def yX5_findLeads : MethodName := ⟨RX5, "findLeads", "([II)I"⟩
abbrev cX5_highestSpice : ByteArray := prog_7_method_5_code
def yX5_highestSpice : MethodName := ⟨RX5, "highestSpice", "(I)I"⟩
abbrev cX5_collectParts : ByteArray := prog_7_method_6_code
def yX5_collectParts : MethodName := ⟨RX5, "collectParts", "()V"⟩
abbrev cX5_reduced : ByteArray := prog_7_method_7_code
def yX5_reduced : MethodName := ⟨RX5, "reduced", "([II)I"⟩
abbrev cX5_leastLike : ByteArray := prog_7_method_8_code
def yX5_leastLike : MethodName := ⟨RX5, "leastLike", "(I)I"⟩
abbrev cX5_firstJarLike : ByteArray := prog_7_method_9_code
def yX5_firstJarLike : MethodName := ⟨RX5, "firstJarLike", "(ILSpiceThrees$Shop;)I"⟩
abbrev cX5_someBlandLeads : ByteArray := prog_7_method_10_code
def yX5_someBlandLeads : MethodName := ⟨RX5, "someBlandLeads", "(II)Z"⟩
abbrev cX5_nextLike : ByteArray := prog_7_method_11_code
def yX5_nextLike : MethodName := ⟨RX5, "nextLike", "(II)I"⟩
abbrev cX5_cheapestLike : ByteArray := prog_7_method_12_code
def yX5_cheapestLike : MethodName := ⟨RX5, "cheapestLike", "(I[I)I"⟩
abbrev cX5_fillCosts : ByteArray := prog_7_method_13_code
def yX5_fillCosts : MethodName := ⟨RX5, "fillCosts", "([I)V"⟩
abbrev cX5_firstNeedless : ByteArray := prog_7_method_14_code
def yX5_firstNeedless : MethodName := ⟨RX5, "firstNeedless", "()I"⟩
def RX6 : String := "SpiceThrees$Text"
def TX6 : u_T := fun k => match k with
  | 0 => ("SpiceThrees$Text", "signs", "[C", true)
  | 1 => ("SpiceThrees$Text", "length", "I", false)
  | 2 => ("SpiceThrees$Text", "at", "I", false)
  | 3 => ("SpiceThrees$Text", "word", "I", false)
  | 4 => ("SpiceThrees$Text", "amounts", "[I", true)
  | 5 => ("SpiceThrees$Text", "first", "I", false)
  | _ => ("SpiceThrees$Text", "second", "I", false)
def tyX6 : Nat → FieldType := fun k => match k with
  | 0 => .array .char
  | 1 => .int
  | 2 => .int
  | 3 => .int
  | 4 => .array .int
  | 5 => .int
  | _ => .int
abbrev wsX60 : List Cond := u_ws RX6 TX6 7
theorem nmX6 : ∀ a, a < 7 → ∀ b, b < 7 → a ≠ b → (TX6 a).2.1 ≠ (TX6 b).2.1 := by decide +kernel
theorem tyX6_ok : ∀ k, k < 7 → parseFieldDescriptor (TX6 k).2.2.1 = some (tyX6 k) := by decide +kernel
abbrev cX6_init : ByteArray := prog_8_method_1_code
def yX6_init : MethodName := ⟨RX6, "<init>", "()V"⟩
def RX7 : String := "SpiceThrees"
def TX7 : u_T := fun k => match k with
  | 0 => ("SpiceThrees", "mixes", "LSpiceThrees$Mixes;", true)
  | 1 => ("SpiceThrees", "tastes", "LSpiceThrees$Tastes;", true)
  | 2 => ("SpiceThrees", "shop", "LSpiceThrees$Shop;", true)
  | 3 => ("SpiceThrees", "kept", "LSpiceThrees$Shop;", true)
  | 4 => ("SpiceThrees", "hasKept", "Z", false)
  | 5 => ("SpiceThrees", "history", "LSpiceThrees$History;", true)
  | 6 => ("SpiceThrees", "acts", "LSpiceThrees$Acts;", true)
  | 7 => ("SpiceThrees", "text", "LSpiceThrees$Text;", true)
  | _ => ("SpiceThrees", "choices", "LSpiceThrees$Choices;", true)
def tyX7 : Nat → FieldType := fun k => match k with
  | 0 => .object "SpiceThrees$Mixes"
  | 1 => .object "SpiceThrees$Tastes"
  | 2 => .object "SpiceThrees$Shop"
  | 3 => .object "SpiceThrees$Shop"
  | 4 => .boolean
  | 5 => .object "SpiceThrees$History"
  | 6 => .object "SpiceThrees$Acts"
  | 7 => .object "SpiceThrees$Text"
  | _ => .object "SpiceThrees$Choices"
abbrev wsX70 : List Cond := u_ws RX7 TX7 9
theorem nmX7 : ∀ a, a < 9 → ∀ b, b < 9 → a ≠ b → (TX7 a).2.1 ≠ (TX7 b).2.1 := by decide +kernel
theorem tyX7_ok : ∀ k, k < 9 → parseFieldDescriptor (TX7 k).2.2.1 = some (tyX7 k) := by decide +kernel
abbrev cX7_init : ByteArray := prog_1_method_1_code
def yX7_init : MethodName := ⟨RX7, "<init>", "()V"⟩
abbrev cX7_jar : ByteArray := prog_1_method_2_code
def yX7_jar : MethodName := ⟨RX7, "jar", "(I)I"⟩
abbrev cX7_pour : ByteArray := prog_1_method_3_code
def yX7_pour : MethodName := ⟨RX7, "pour", "(II)I"⟩
abbrev cX7_more : ByteArray := prog_1_method_4_code
def yX7_more : MethodName := ⟨RX7, "more", "(I)I"⟩
abbrev cX7_throwAway : ByteArray := prog_1_method_5_code
def yX7_throwAway : MethodName := ⟨RX7, "throwAway", "(I)I"⟩
abbrev cX7_rule : ByteArray := prog_1_method_6_code
def yX7_rule : MethodName := ⟨RX7, "rule", "(I)I"⟩
abbrev cX7_drop : ByteArray := prog_1_method_7_code
def yX7_drop : MethodName := ⟨RX7, "drop", "(I)I"⟩
abbrev cX7_price : ByteArray := prog_1_method_8_code
def yX7_price : MethodName := ⟨RX7, "price", "(II)I"⟩
abbrev cX7_want : ByteArray := prog_1_method_9_code
def yX7_want : MethodName := ⟨RX7, "want", "(I)I"⟩
abbrev cX7_serve : ByteArray := prog_1_method_10_code
def yX7_serve : MethodName := ⟨RX7, "serve", "()I"⟩
abbrev cX7_undo : ByteArray := prog_1_method_15_code
def yX7_undo : MethodName := ⟨RX7, "undo", "()I"⟩
abbrev cX7_ended : ByteArray := prog_1_method_18_code
def yX7_ended : MethodName := ⟨RX7, "ended", "(I)I"⟩
abbrev cX7_jarOf : ByteArray := prog_1_method_19_code
def yX7_jarOf : MethodName := ⟨RX7, "jarOf", "(II)I"⟩
abbrev cX7_ranked : ByteArray := prog_1_method_20_code
def yX7_ranked : MethodName := ⟨RX7, "ranked", "(I)I"⟩
abbrev cX7_ruleOf : ByteArray := prog_1_method_21_code
def yX7_ruleOf : MethodName := ⟨RX7, "ruleOf", "(I)I"⟩
abbrev cX7_mixOf : ByteArray := prog_1_method_22_code
def yX7_mixOf : MethodName := ⟨RX7, "mixOf", "(II)I"⟩
abbrev cX7_together : ByteArray := prog_1_method_23_code
def yX7_together : MethodName := ⟨RX7, "together", "(II)I"⟩
abbrev cX7_alike : ByteArray := prog_1_method_24_code
def yX7_alike : MethodName := ⟨RX7, "alike", "(IIZ)I"⟩
abbrev cX7_shelf : ByteArray := prog_1_method_25_code
def yX7_shelf : MethodName := ⟨RX7, "shelf", "(II)I"⟩
abbrev cX7_waiting : ByteArray := prog_1_method_26_code
def yX7_waiting : MethodName := ⟨RX7, "waiting", "(I)I"⟩
abbrev cX7_count : ByteArray := prog_1_method_27_code
def yX7_count : MethodName := ⟨RX7, "count", "(I)I"⟩
abbrev cX7_accountTold : ByteArray := prog_1_method_29_code
def yX7_accountTold : MethodName := ⟨RX7, "accountTold", "(I)I"⟩
abbrev cX7_fewest : ByteArray := prog_1_method_30_code
def yX7_fewest : MethodName := ⟨RX7, "fewest", "(II)I"⟩
abbrev cX7_makes : ByteArray := prog_1_method_31_code
def yX7_makes : MethodName := ⟨RX7, "makes", "()I"⟩
abbrev cX7_needless : ByteArray := prog_1_method_32_code
def yX7_needless : MethodName := ⟨RX7, "needless", "()I"⟩
abbrev cX7_ifPoured : ByteArray := prog_1_method_33_code
def yX7_ifPoured : MethodName := ⟨RX7, "ifPoured", "(II)I"⟩
abbrev cX7_strength : ByteArray := prog_1_method_34_code
def yX7_strength : MethodName := ⟨RX7, "strength", "()I"⟩
abbrev cX7_tasteOf : ByteArray := prog_1_method_35_code
def yX7_tasteOf : MethodName := ⟨RX7, "tasteOf", "(I)I"⟩
abbrev cX7_cheapestLike : ByteArray := prog_1_method_36_code
def yX7_cheapestLike : MethodName := ⟨RX7, "cheapestLike", "(I)I"⟩
abbrev cX7_shelves : ByteArray := prog_1_method_37_code
def yX7_shelves : MethodName := ⟨RX7, "shelves", "()I"⟩
abbrev cX7_jarsLike : ByteArray := prog_1_method_38_code
def yX7_jarsLike : MethodName := ⟨RX7, "jarsLike", "(I)I"⟩
abbrev cX7_lowestJarLike : ByteArray := prog_1_method_39_code
def yX7_lowestJarLike : MethodName := ⟨RX7, "lowestJarLike", "(I)I"⟩
abbrev cX7_cheapestJarLike : ByteArray := prog_1_method_40_code
def yX7_cheapestJarLike : MethodName := ⟨RX7, "cheapestJarLike", "(I)I"⟩
abbrev cX7_tasteOfShelf : ByteArray := prog_1_method_41_code
def yX7_tasteOfShelf : MethodName := ⟨RX7, "tasteOfShelf", "(I)I"⟩
abbrev cX7_nextShelf : ByteArray := prog_1_method_42_code
def yX7_nextShelf : MethodName := ⟨RX7, "nextShelf", "(I)I"⟩
abbrev cX7_unitsInJars : ByteArray := prog_1_method_43_code
def yX7_unitsInJars : MethodName := ⟨RX7, "unitsInJars", "()I"⟩
abbrev cX7_isMix : ByteArray := prog_1_method_44_code
def yX7_isMix : MethodName := ⟨RX7, "isMix", "(I)Z"⟩
abbrev cX7_unitsOf : ByteArray := prog_1_method_45_code
def yX7_unitsOf : MethodName := ⟨RX7, "unitsOf", "(I)I"⟩
abbrev cX7_costOf : ByteArray := prog_1_method_46_code
def yX7_costOf : MethodName := ⟨RX7, "costOf", "(I[I)I"⟩
def RX8 : String := "SpiceThreesModel"
def TX8 : u_T := fun k => match k with
  | _ => ("", "", "", false)
def tyX8 : Nat → FieldType := fun k => match k with
  | _ => .int
abbrev wsX80 : List Cond := u_ws RX8 TX8 0
theorem nmX8 : ∀ a, a < 0 → ∀ b, b < 0 → a ≠ b → (TX8 a).2.1 ≠ (TX8 b).2.1 := by decide +kernel
theorem tyX8_ok : ∀ k, k < 0 → parseFieldDescriptor (TX8 k).2.2.1 = some (tyX8 k) := by decide +kernel
def RJ6 : String := "java/lang/Integer"
abbrev cJ6_bitCount_0f7a4 : ByteArray := prog_11_method_49_code
def yJ6_bitCount_0f7a4 : MethodName := ⟨RJ6, "bitCount", "(I)I"⟩
def RJ9 : String := "java/lang/Math"
abbrev cJ9_min_7cf53 : ByteArray := prog_12_method_69_code
def yJ9_min_7cf53 : MethodName := ⟨RJ9, "min", "(II)I"⟩
def RJ10 : String := "java/lang/System"
def RJ7 : String := "java/util/Arrays"
abbrev cJ7_fill_53178 : ByteArray := prog_14_method_103_code
def yJ7_fill_53178 : MethodName := ⟨RJ7, "fill", "([II)V"⟩
def RL : String := "SpiceThreesLaw"
abbrev cL_cell : ByteArray := method_2_code
def yL_cell : MethodName := ⟨RL, "cell", "([II)I"⟩
abbrev cL_low : ByteArray := method_3_code
def yL_low : MethodName := ⟨RL, "low", "(II)I"⟩
abbrev cL_jar : ByteArray := method_4_code
def yL_jar : MethodName := ⟨RL, "jar", "(LSpiceThrees;I)I"⟩
abbrev cL_mix : ByteArray := method_5_code
def yL_mix : MethodName := ⟨RL, "mix", "(I)I"⟩
abbrev cL_does : ByteArray := method_6_code
def yL_does : MethodName := ⟨RL, "does", "(LSpiceThrees;I)I"⟩
abbrev cL_areAccountsSo : ByteArray := method_7_code
def yL_areAccountsSo : MethodName := ⟨RL, "areAccountsSo", "(LSpiceThrees;I)Z"⟩
abbrev cL_isMixSo : ByteArray := method_8_code
def yL_isMixSo : MethodName := ⟨RL, "isMixSo", "(LSpiceThrees;III)Z"⟩
abbrev cL_size : ByteArray := method_9_code
def yL_size : MethodName := ⟨RL, "size", "(I)I"⟩
abbrev cL_areFewestSo : ByteArray := method_10_code
def yL_areFewestSo : MethodName := ⟨RL, "areFewestSo", "(LSpiceThrees;I)Z"⟩
abbrev cL_areRulesSo : ByteArray := method_11_code
def yL_areRulesSo : MethodName := ⟨RL, "areRulesSo", "(LSpiceThrees;)Z"⟩
abbrev cL_isPourSo : ByteArray := method_12_code
def yL_isPourSo : MethodName := ⟨RL, "isPourSo", "(LSpiceThrees;II)Z"⟩
abbrev cL_isServeSo : ByteArray := method_13_code
def yL_isServeSo : MethodName := ⟨RL, "isServeSo", "(LSpiceThrees;)Z"⟩
abbrev cL_law : ByteArray := code
def yL_law : MethodName := ⟨RL, "law", "([I)Z"⟩
abbrev vwCl : List vw_C := [(RX0, TX0, 4), (RX1, TX1, 4), (RX2, TX2, 3), (RX3, TX3, 1), (RX4, TX4, 10), (RX5, TX5, 9), (RX6, TX6, 7), (RX7, TX7, 9)]
theorem inX0 : ∀ w ∈ wsX00, w ∈ lw_tbl := by decide +kernel
theorem inX1 : ∀ w ∈ wsX10, w ∈ lw_tbl := by decide +kernel
theorem inX2 : ∀ w ∈ wsX20, w ∈ lw_tbl := by decide +kernel
theorem inX3 : ∀ w ∈ wsX30, w ∈ lw_tbl := by decide +kernel
theorem inX4 : ∀ w ∈ wsX40, w ∈ lw_tbl := by decide +kernel
theorem inX5 : ∀ w ∈ wsX50, w ∈ lw_tbl := by decide +kernel
theorem inX6 : ∀ w ∈ wsX60, w ∈ lw_tbl := by decide +kernel
theorem inX7 : ∀ w ∈ wsX70, w ∈ lw_tbl := by decide +kernel
theorem inX8 : ∀ w ∈ wsX80, w ∈ lw_tbl := by decide +kernel
