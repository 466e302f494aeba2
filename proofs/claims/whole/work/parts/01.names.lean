-- ===== PART A: goes FIRST, ahead of the names: the tables' words, and 'selects' of the private methods out of them =====
/-- a private method of a class that the tables say can be made, by its rows of tables_1 -/
def lw_okq (q : MethodName × Nat) : Prop := (q.1.cls ≠ "java/lang/invoke/MethodHandle" ∧ q.1.cls ≠ "java/lang/invoke/VarHandle") ∧ Cond.instantiable q.1.cls q.2 ∈ tables_1 ∧ Cond.privateMethod q.1 ∈ tables_1 ∧ Cond.instanceMethod q.1 ∈ tables_1
theorem lw_p0 : lw_okq (⟨"SpiceThrees", "ended", "(I)I"⟩, 9) := ⟨⟨by decide +kernel, by decide +kernel⟩, List.mem_of_getElem? (i := 19) (by decide +kernel), List.mem_of_getElem? (i := 294) (by decide +kernel), List.mem_of_getElem? (i := 295) (by decide +kernel)⟩
theorem lw_p1 : lw_okq (⟨"SpiceThrees$Acts", "mixInto", "(II)I"⟩, 4) := ⟨⟨by decide +kernel, by decide +kernel⟩, List.mem_of_getElem? (i := 153) (by decide +kernel), List.mem_of_getElem? (i := 317) (by decide +kernel), List.mem_of_getElem? (i := 318) (by decide +kernel)⟩
theorem lw_p2 : lw_okq (⟨"SpiceThrees", "strength", "()I"⟩, 9) := ⟨⟨by decide +kernel, by decide +kernel⟩, List.mem_of_getElem? (i := 19) (by decide +kernel), List.mem_of_getElem? (i := 356) (by decide +kernel), List.mem_of_getElem? (i := 357) (by decide +kernel)⟩
theorem lw_p3 : lw_okq (⟨"SpiceThrees$Tastes", "isLearned", "(LSpiceThrees$Shop;)Z"⟩, 9) := ⟨⟨by decide +kernel, by decide +kernel⟩, List.mem_of_getElem? (i := 38) (by decide +kernel), List.mem_of_getElem? (i := 364) (by decide +kernel), List.mem_of_getElem? (i := 365) (by decide +kernel)⟩
theorem lw_p4 : lw_okq (⟨"SpiceThrees$Tastes", "findLeads", "([II)I"⟩, 9) := ⟨⟨by decide +kernel, by decide +kernel⟩, List.mem_of_getElem? (i := 38) (by decide +kernel), List.mem_of_getElem? (i := 369) (by decide +kernel), List.mem_of_getElem? (i := 370) (by decide +kernel)⟩
theorem lw_p5 : lw_okq (⟨"SpiceThrees$Tastes", "reduced", "([II)I"⟩, 9) := ⟨⟨by decide +kernel, by decide +kernel⟩, List.mem_of_getElem? (i := 38) (by decide +kernel), List.mem_of_getElem? (i := 376) (by decide +kernel), List.mem_of_getElem? (i := 377) (by decide +kernel)⟩
theorem lw_p6 : lw_okq (⟨"SpiceThrees$Tastes", "collectParts", "()V"⟩, 9) := ⟨⟨by decide +kernel, by decide +kernel⟩, List.mem_of_getElem? (i := 38) (by decide +kernel), List.mem_of_getElem? (i := 390) (by decide +kernel), List.mem_of_getElem? (i := 391) (by decide +kernel)⟩
theorem lw_p7 : lw_okq (⟨"SpiceThrees$Acts", "sell", "(I)I"⟩, 4) := ⟨⟨by decide +kernel, by decide +kernel⟩, List.mem_of_getElem? (i := 153) (by decide +kernel), List.mem_of_getElem? (i := 444) (by decide +kernel), List.mem_of_getElem? (i := 445) (by decide +kernel)⟩
theorem lw_p8 : lw_okq (⟨"SpiceThrees$Text", "readWord", "()Z"⟩, 7) := ⟨⟨by decide +kernel, by decide +kernel⟩, List.mem_of_getElem? (i := 172) (by decide +kernel), List.mem_of_getElem? (i := 480) (by decide +kernel), List.mem_of_getElem? (i := 481) (by decide +kernel)⟩
theorem lw_p9 : lw_okq (⟨"SpiceThrees$Text", "readRuleNumber", "()Z"⟩, 7) := ⟨⟨by decide +kernel, by decide +kernel⟩, List.mem_of_getElem? (i := 172) (by decide +kernel), List.mem_of_getElem? (i := 549) (by decide +kernel), List.mem_of_getElem? (i := 550) (by decide +kernel)⟩
theorem lw_p10 : lw_okq (⟨"SpiceThrees$Text", "digitHere", "()I"⟩, 7) := ⟨⟨by decide +kernel, by decide +kernel⟩, List.mem_of_getElem? (i := 172) (by decide +kernel), List.mem_of_getElem? (i := 553) (by decide +kernel), List.mem_of_getElem? (i := 554) (by decide +kernel)⟩
theorem lw_p11 : lw_okq (⟨"SpiceThrees$Text", "readFirst", "()Z"⟩, 7) := ⟨⟨by decide +kernel, by decide +kernel⟩, List.mem_of_getElem? (i := 172) (by decide +kernel), List.mem_of_getElem? (i := 557) (by decide +kernel), List.mem_of_getElem? (i := 558) (by decide +kernel)⟩
theorem lw_p12 : lw_okq (⟨"SpiceThrees$Text", "readJarNumber", "()I"⟩, 7) := ⟨⟨by decide +kernel, by decide +kernel⟩, List.mem_of_getElem? (i := 172) (by decide +kernel), List.mem_of_getElem? (i := 561) (by decide +kernel), List.mem_of_getElem? (i := 562) (by decide +kernel)⟩
theorem lw_p13 : lw_okq (⟨"SpiceThrees$Text", "readSecond", "()Z"⟩, 7) := ⟨⟨by decide +kernel, by decide +kernel⟩, List.mem_of_getElem? (i := 172) (by decide +kernel), List.mem_of_getElem? (i := 565) (by decide +kernel), List.mem_of_getElem? (i := 566) (by decide +kernel)⟩
theorem lw_p14 : lw_okq (⟨"SpiceThrees$Text", "readMix", "()Z"⟩, 7) := ⟨⟨by decide +kernel, by decide +kernel⟩, List.mem_of_getElem? (i := 172) (by decide +kernel), List.mem_of_getElem? (i := 569) (by decide +kernel), List.mem_of_getElem? (i := 570) (by decide +kernel)⟩
theorem lw_p15 : lw_okq (⟨"SpiceThrees$Text", "spiceHere", "()I"⟩, 7) := ⟨⟨by decide +kernel, by decide +kernel⟩, List.mem_of_getElem? (i := 172) (by decide +kernel), List.mem_of_getElem? (i := 574) (by decide +kernel), List.mem_of_getElem? (i := 575) (by decide +kernel)⟩
def lw_privs_1 : List (MethodName × Nat) := [(⟨"SpiceThrees", "ended", "(I)I"⟩, 9), (⟨"SpiceThrees$Acts", "mixInto", "(II)I"⟩, 4), (⟨"SpiceThrees", "strength", "()I"⟩, 9), (⟨"SpiceThrees$Tastes", "isLearned", "(LSpiceThrees$Shop;)Z"⟩, 9), (⟨"SpiceThrees$Tastes", "findLeads", "([II)I"⟩, 9), (⟨"SpiceThrees$Tastes", "reduced", "([II)I"⟩, 9), (⟨"SpiceThrees$Tastes", "collectParts", "()V"⟩, 9), (⟨"SpiceThrees$Acts", "sell", "(I)I"⟩, 4), (⟨"SpiceThrees$Text", "readWord", "()Z"⟩, 7), (⟨"SpiceThrees$Text", "readRuleNumber", "()Z"⟩, 7), (⟨"SpiceThrees$Text", "digitHere", "()I"⟩, 7), (⟨"SpiceThrees$Text", "readFirst", "()Z"⟩, 7), (⟨"SpiceThrees$Text", "readJarNumber", "()I"⟩, 7), (⟨"SpiceThrees$Text", "readSecond", "()Z"⟩, 7), (⟨"SpiceThrees$Text", "readMix", "()Z"⟩, 7), (⟨"SpiceThrees$Text", "spiceHere", "()I"⟩, 7)]
theorem lw_r1 : ∀ q ∈ lw_privs_1, lw_okq q := List.forall_mem_cons.mpr ⟨lw_p0, List.forall_mem_cons.mpr ⟨lw_p1, List.forall_mem_cons.mpr ⟨lw_p2, List.forall_mem_cons.mpr ⟨lw_p3, List.forall_mem_cons.mpr ⟨lw_p4, List.forall_mem_cons.mpr ⟨lw_p5, List.forall_mem_cons.mpr ⟨lw_p6, List.forall_mem_cons.mpr ⟨lw_p7, List.forall_mem_cons.mpr ⟨lw_p8, List.forall_mem_cons.mpr ⟨lw_p9, List.forall_mem_cons.mpr ⟨lw_p10, List.forall_mem_cons.mpr ⟨lw_p11, List.forall_mem_cons.mpr ⟨lw_p12, List.forall_mem_cons.mpr ⟨lw_p13, List.forall_mem_cons.mpr ⟨lw_p14, List.forall_mem_cons.mpr ⟨lw_p15, fun _ h => absurd h List.not_mem_nil⟩⟩⟩⟩⟩⟩⟩⟩⟩⟩⟩⟩⟩⟩⟩⟩
theorem lw_p16 : lw_okq (⟨"SpiceThrees$Acts", "perform", "(LSpiceThrees$Text;)I"⟩, 4) := ⟨⟨by decide +kernel, by decide +kernel⟩, List.mem_of_getElem? (i := 153) (by decide +kernel), List.mem_of_getElem? (i := 588) (by decide +kernel), List.mem_of_getElem? (i := 589) (by decide +kernel)⟩
theorem lw_p17 : lw_okq (⟨"SpiceThrees", "tasteOf", "(I)I"⟩, 9) := ⟨⟨by decide +kernel, by decide +kernel⟩, List.mem_of_getElem? (i := 19) (by decide +kernel), List.mem_of_getElem? (i := 632) (by decide +kernel), List.mem_of_getElem? (i := 633) (by decide +kernel)⟩
theorem lw_p18 : lw_okq (⟨"SpiceThrees", "cheapestLike", "(I)I"⟩, 9) := ⟨⟨by decide +kernel, by decide +kernel⟩, List.mem_of_getElem? (i := 19) (by decide +kernel), List.mem_of_getElem? (i := 637) (by decide +kernel), List.mem_of_getElem? (i := 638) (by decide +kernel)⟩
theorem lw_p19 : lw_okq (⟨"SpiceThrees$Tastes", "fillCosts", "([I)V"⟩, 9) := ⟨⟨by decide +kernel, by decide +kernel⟩, List.mem_of_getElem? (i := 38) (by decide +kernel), List.mem_of_getElem? (i := 645) (by decide +kernel), List.mem_of_getElem? (i := 646) (by decide +kernel)⟩
theorem lw_p20 : lw_okq (⟨"SpiceThrees$Tastes", "nextLike", "(II)I"⟩, 9) := ⟨⟨by decide +kernel, by decide +kernel⟩, List.mem_of_getElem? (i := 38) (by decide +kernel), List.mem_of_getElem? (i := 650) (by decide +kernel), List.mem_of_getElem? (i := 651) (by decide +kernel)⟩
theorem lw_p21 : lw_okq (⟨"SpiceThrees", "jarsLike", "(I)I"⟩, 9) := ⟨⟨by decide +kernel, by decide +kernel⟩, List.mem_of_getElem? (i := 19) (by decide +kernel), List.mem_of_getElem? (i := 668) (by decide +kernel), List.mem_of_getElem? (i := 669) (by decide +kernel)⟩
theorem lw_p22 : lw_okq (⟨"SpiceThrees", "tasteOfShelf", "(I)I"⟩, 9) := ⟨⟨by decide +kernel, by decide +kernel⟩, List.mem_of_getElem? (i := 19) (by decide +kernel), List.mem_of_getElem? (i := 689) (by decide +kernel), List.mem_of_getElem? (i := 690) (by decide +kernel)⟩
theorem lw_p23 : lw_okq (⟨"SpiceThrees", "nextShelf", "(I)I"⟩, 9) := ⟨⟨by decide +kernel, by decide +kernel⟩, List.mem_of_getElem? (i := 19) (by decide +kernel), List.mem_of_getElem? (i := 693) (by decide +kernel), List.mem_of_getElem? (i := 694) (by decide +kernel)⟩
theorem lw_p24 : lw_okq (⟨"SpiceThrees", "lowestJarLike", "(I)I"⟩, 9) := ⟨⟨by decide +kernel, by decide +kernel⟩, List.mem_of_getElem? (i := 19) (by decide +kernel), List.mem_of_getElem? (i := 697) (by decide +kernel), List.mem_of_getElem? (i := 698) (by decide +kernel)⟩
theorem lw_p25 : lw_okq (⟨"SpiceThrees", "cheapestJarLike", "(I)I"⟩, 9) := ⟨⟨by decide +kernel, by decide +kernel⟩, List.mem_of_getElem? (i := 19) (by decide +kernel), List.mem_of_getElem? (i := 702) (by decide +kernel), List.mem_of_getElem? (i := 703) (by decide +kernel)⟩
theorem lw_p26 : lw_okq (⟨"SpiceThrees", "shelves", "()I"⟩, 9) := ⟨⟨by decide +kernel, by decide +kernel⟩, List.mem_of_getElem? (i := 19) (by decide +kernel), List.mem_of_getElem? (i := 714) (by decide +kernel), List.mem_of_getElem? (i := 715) (by decide +kernel)⟩
theorem lw_p27 : lw_okq (⟨"SpiceThrees", "unitsInJars", "()I"⟩, 9) := ⟨⟨by decide +kernel, by decide +kernel⟩, List.mem_of_getElem? (i := 19) (by decide +kernel), List.mem_of_getElem? (i := 718) (by decide +kernel), List.mem_of_getElem? (i := 719) (by decide +kernel)⟩
theorem lw_p28 : lw_okq (⟨"SpiceThrees", "accountTold", "(I)I"⟩, 9) := ⟨⟨by decide +kernel, by decide +kernel⟩, List.mem_of_getElem? (i := 19) (by decide +kernel), List.mem_of_getElem? (i := 722) (by decide +kernel), List.mem_of_getElem? (i := 723) (by decide +kernel)⟩
theorem lw_p29 : lw_okq (⟨"SpiceThreesModel", "putAside", "()V"⟩, 19) := ⟨⟨by decide +kernel, by decide +kernel⟩, List.mem_of_getElem? (i := 772) (by decide +kernel), List.mem_of_getElem? (i := 847) (by decide +kernel), List.mem_of_getElem? (i := 848) (by decide +kernel)⟩
theorem lw_p30 : lw_okq (⟨"SpiceThreesModel", "priceOf", "(I)I"⟩, 19) := ⟨⟨by decide +kernel, by decide +kernel⟩, List.mem_of_getElem? (i := 772) (by decide +kernel), List.mem_of_getElem? (i := 854) (by decide +kernel), List.mem_of_getElem? (i := 855) (by decide +kernel)⟩
theorem lw_p31 : lw_okq (⟨"SpiceThreesModel", "comes", "(III)I"⟩, 19) := ⟨⟨by decide +kernel, by decide +kernel⟩, List.mem_of_getElem? (i := 772) (by decide +kernel), List.mem_of_getElem? (i := 858) (by decide +kernel), List.mem_of_getElem? (i := 859) (by decide +kernel)⟩
def lw_privs_2 : List (MethodName × Nat) := [(⟨"SpiceThrees$Acts", "perform", "(LSpiceThrees$Text;)I"⟩, 4), (⟨"SpiceThrees", "tasteOf", "(I)I"⟩, 9), (⟨"SpiceThrees", "cheapestLike", "(I)I"⟩, 9), (⟨"SpiceThrees$Tastes", "fillCosts", "([I)V"⟩, 9), (⟨"SpiceThrees$Tastes", "nextLike", "(II)I"⟩, 9), (⟨"SpiceThrees", "jarsLike", "(I)I"⟩, 9), (⟨"SpiceThrees", "tasteOfShelf", "(I)I"⟩, 9), (⟨"SpiceThrees", "nextShelf", "(I)I"⟩, 9), (⟨"SpiceThrees", "lowestJarLike", "(I)I"⟩, 9), (⟨"SpiceThrees", "cheapestJarLike", "(I)I"⟩, 9), (⟨"SpiceThrees", "shelves", "()I"⟩, 9), (⟨"SpiceThrees", "unitsInJars", "()I"⟩, 9), (⟨"SpiceThrees", "accountTold", "(I)I"⟩, 9), (⟨"SpiceThreesModel", "putAside", "()V"⟩, 19), (⟨"SpiceThreesModel", "priceOf", "(I)I"⟩, 19), (⟨"SpiceThreesModel", "comes", "(III)I"⟩, 19)]
theorem lw_r2 : ∀ q ∈ lw_privs_2, lw_okq q := List.forall_mem_cons.mpr ⟨lw_p16, List.forall_mem_cons.mpr ⟨lw_p17, List.forall_mem_cons.mpr ⟨lw_p18, List.forall_mem_cons.mpr ⟨lw_p19, List.forall_mem_cons.mpr ⟨lw_p20, List.forall_mem_cons.mpr ⟨lw_p21, List.forall_mem_cons.mpr ⟨lw_p22, List.forall_mem_cons.mpr ⟨lw_p23, List.forall_mem_cons.mpr ⟨lw_p24, List.forall_mem_cons.mpr ⟨lw_p25, List.forall_mem_cons.mpr ⟨lw_p26, List.forall_mem_cons.mpr ⟨lw_p27, List.forall_mem_cons.mpr ⟨lw_p28, List.forall_mem_cons.mpr ⟨lw_p29, List.forall_mem_cons.mpr ⟨lw_p30, List.forall_mem_cons.mpr ⟨lw_p31, fun _ h => absurd h List.not_mem_nil⟩⟩⟩⟩⟩⟩⟩⟩⟩⟩⟩⟩⟩⟩⟩⟩
theorem lw_p32 : lw_okq (⟨"SpiceThreesModel", "act", "(I)I"⟩, 19) := ⟨⟨by decide +kernel, by decide +kernel⟩, List.mem_of_getElem? (i := 772) (by decide +kernel), List.mem_of_getElem? (i := 862) (by decide +kernel), List.mem_of_getElem? (i := 863) (by decide +kernel)⟩
theorem lw_p33 : lw_okq (⟨"SpiceThreesModel", "pours", "(II)I"⟩, 19) := ⟨⟨by decide +kernel, by decide +kernel⟩, List.mem_of_getElem? (i := 772) (by decide +kernel), List.mem_of_getElem? (i := 870) (by decide +kernel), List.mem_of_getElem? (i := 871) (by decide +kernel)⟩
theorem lw_p34 : lw_okq (⟨"SpiceThreesModel", "find", "(I)I"⟩, 19) := ⟨⟨by decide +kernel, by decide +kernel⟩, List.mem_of_getElem? (i := 772) (by decide +kernel), List.mem_of_getElem? (i := 874) (by decide +kernel), List.mem_of_getElem? (i := 875) (by decide +kernel)⟩
theorem lw_p35 : lw_okq (⟨"SpiceThreesModel", "numberOf", "(I)I"⟩, 19) := ⟨⟨by decide +kernel, by decide +kernel⟩, List.mem_of_getElem? (i := 772) (by decide +kernel), List.mem_of_getElem? (i := 878) (by decide +kernel), List.mem_of_getElem? (i := 879) (by decide +kernel)⟩
theorem lw_p36 : lw_okq (⟨"SpiceThreesModel", "mixIn", "(I)I"⟩, 19) := ⟨⟨by decide +kernel, by decide +kernel⟩, List.mem_of_getElem? (i := 772) (by decide +kernel), List.mem_of_getElem? (i := 882) (by decide +kernel), List.mem_of_getElem? (i := 883) (by decide +kernel)⟩
theorem lw_p37 : lw_okq (⟨"SpiceThreesModel", "buysMore", "(I)I"⟩, 19) := ⟨⟨by decide +kernel, by decide +kernel⟩, List.mem_of_getElem? (i := 772) (by decide +kernel), List.mem_of_getElem? (i := 893) (by decide +kernel), List.mem_of_getElem? (i := 894) (by decide +kernel)⟩
theorem lw_p38 : lw_okq (⟨"SpiceThreesModel", "dropJar", "(I)V"⟩, 19) := ⟨⟨by decide +kernel, by decide +kernel⟩, List.mem_of_getElem? (i := 772) (by decide +kernel), List.mem_of_getElem? (i := 901) (by decide +kernel), List.mem_of_getElem? (i := 902) (by decide +kernel)⟩
theorem lw_p39 : lw_okq (⟨"SpiceThreesModel", "rules", "(I)I"⟩, 19) := ⟨⟨by decide +kernel, by decide +kernel⟩, List.mem_of_getElem? (i := 772) (by decide +kernel), List.mem_of_getElem? (i := 909) (by decide +kernel), List.mem_of_getElem? (i := 910) (by decide +kernel)⟩
theorem lw_p40 : lw_okq (⟨"SpiceThreesModel", "strength", "()I"⟩, 19) := ⟨⟨by decide +kernel, by decide +kernel⟩, List.mem_of_getElem? (i := 772) (by decide +kernel), List.mem_of_getElem? (i := 913) (by decide +kernel), List.mem_of_getElem? (i := 914) (by decide +kernel)⟩
theorem lw_p41 : lw_okq (⟨"SpiceThreesModel", "lay", "()V"⟩, 19) := ⟨⟨by decide +kernel, by decide +kernel⟩, List.mem_of_getElem? (i := 772) (by decide +kernel), List.mem_of_getElem? (i := 917) (by decide +kernel), List.mem_of_getElem? (i := 918) (by decide +kernel)⟩
theorem lw_p42 : lw_okq (⟨"SpiceThreesModel", "layBland", "(I)I"⟩, 19) := ⟨⟨by decide +kernel, by decide +kernel⟩, List.mem_of_getElem? (i := 772) (by decide +kernel), List.mem_of_getElem? (i := 921) (by decide +kernel), List.mem_of_getElem? (i := 922) (by decide +kernel)⟩
theorem lw_p43 : lw_okq (⟨"SpiceThreesModel", "drops", "(I)I"⟩, 19) := ⟨⟨by decide +kernel, by decide +kernel⟩, List.mem_of_getElem? (i := 772) (by decide +kernel), List.mem_of_getElem? (i := 929) (by decide +kernel), List.mem_of_getElem? (i := 930) (by decide +kernel)⟩
theorem lw_p44 : lw_okq (⟨"SpiceThreesModel", "wants", "(I)I"⟩, 19) := ⟨⟨by decide +kernel, by decide +kernel⟩, List.mem_of_getElem? (i := 772) (by decide +kernel), List.mem_of_getElem? (i := 941) (by decide +kernel), List.mem_of_getElem? (i := 942) (by decide +kernel)⟩
theorem lw_p45 : lw_okq (⟨"SpiceThreesModel", "serves", "()I"⟩, 19) := ⟨⟨by decide +kernel, by decide +kernel⟩, List.mem_of_getElem? (i := 772) (by decide +kernel), List.mem_of_getElem? (i := 949) (by decide +kernel), List.mem_of_getElem? (i := 950) (by decide +kernel)⟩
theorem lw_p46 : lw_okq (⟨"SpiceThreesModel", "taste", "(I)I"⟩, 19) := ⟨⟨by decide +kernel, by decide +kernel⟩, List.mem_of_getElem? (i := 772) (by decide +kernel), List.mem_of_getElem? (i := 953) (by decide +kernel), List.mem_of_getElem? (i := 954) (by decide +kernel)⟩
theorem lw_p47 : lw_okq (⟨"SpiceThreesModel", "go", "(Z)I"⟩, 19) := ⟨⟨by decide +kernel, by decide +kernel⟩, List.mem_of_getElem? (i := 772) (by decide +kernel), List.mem_of_getElem? (i := 969) (by decide +kernel), List.mem_of_getElem? (i := 970) (by decide +kernel)⟩
def lw_privs_3 : List (MethodName × Nat) := [(⟨"SpiceThreesModel", "act", "(I)I"⟩, 19), (⟨"SpiceThreesModel", "pours", "(II)I"⟩, 19), (⟨"SpiceThreesModel", "find", "(I)I"⟩, 19), (⟨"SpiceThreesModel", "numberOf", "(I)I"⟩, 19), (⟨"SpiceThreesModel", "mixIn", "(I)I"⟩, 19), (⟨"SpiceThreesModel", "buysMore", "(I)I"⟩, 19), (⟨"SpiceThreesModel", "dropJar", "(I)V"⟩, 19), (⟨"SpiceThreesModel", "rules", "(I)I"⟩, 19), (⟨"SpiceThreesModel", "strength", "()I"⟩, 19), (⟨"SpiceThreesModel", "lay", "()V"⟩, 19), (⟨"SpiceThreesModel", "layBland", "(I)I"⟩, 19), (⟨"SpiceThreesModel", "drops", "(I)I"⟩, 19), (⟨"SpiceThreesModel", "wants", "(I)I"⟩, 19), (⟨"SpiceThreesModel", "serves", "()I"⟩, 19), (⟨"SpiceThreesModel", "taste", "(I)I"⟩, 19), (⟨"SpiceThreesModel", "go", "(Z)I"⟩, 19)]
theorem lw_r3 : ∀ q ∈ lw_privs_3, lw_okq q := List.forall_mem_cons.mpr ⟨lw_p32, List.forall_mem_cons.mpr ⟨lw_p33, List.forall_mem_cons.mpr ⟨lw_p34, List.forall_mem_cons.mpr ⟨lw_p35, List.forall_mem_cons.mpr ⟨lw_p36, List.forall_mem_cons.mpr ⟨lw_p37, List.forall_mem_cons.mpr ⟨lw_p38, List.forall_mem_cons.mpr ⟨lw_p39, List.forall_mem_cons.mpr ⟨lw_p40, List.forall_mem_cons.mpr ⟨lw_p41, List.forall_mem_cons.mpr ⟨lw_p42, List.forall_mem_cons.mpr ⟨lw_p43, List.forall_mem_cons.mpr ⟨lw_p44, List.forall_mem_cons.mpr ⟨lw_p45, List.forall_mem_cons.mpr ⟨lw_p46, List.forall_mem_cons.mpr ⟨lw_p47, fun _ h => absurd h List.not_mem_nil⟩⟩⟩⟩⟩⟩⟩⟩⟩⟩⟩⟩⟩⟩⟩⟩
theorem lw_p48 : lw_okq (⟨"SpiceThreesModel", "order", "(Z)I"⟩, 19) := ⟨⟨by decide +kernel, by decide +kernel⟩, List.mem_of_getElem? (i := 772) (by decide +kernel), List.mem_of_getElem? (i := 973) (by decide +kernel), List.mem_of_getElem? (i := 974) (by decide +kernel)⟩
theorem lw_p49 : lw_okq (⟨"SpiceThreesModel", "isNext", "(II)Z"⟩, 19) := ⟨⟨by decide +kernel, by decide +kernel⟩, List.mem_of_getElem? (i := 772) (by decide +kernel), List.mem_of_getElem? (i := 977) (by decide +kernel), List.mem_of_getElem? (i := 978) (by decide +kernel)⟩
theorem lw_p50 : lw_okq (⟨"SpiceThreesModel", "signs", "(IIII)V"⟩, 19) := ⟨⟨by decide +kernel, by decide +kernel⟩, List.mem_of_getElem? (i := 772) (by decide +kernel), List.mem_of_getElem? (i := 981) (by decide +kernel), List.mem_of_getElem? (i := 982) (by decide +kernel)⟩
theorem lw_p51 : lw_okq (⟨"SpiceThreesModel", "sign", "(II)I"⟩, 19) := ⟨⟨by decide +kernel, by decide +kernel⟩, List.mem_of_getElem? (i := 772) (by decide +kernel), List.mem_of_getElem? (i := 985) (by decide +kernel), List.mem_of_getElem? (i := 986) (by decide +kernel)⟩
theorem lw_p52 : lw_okq (⟨"SpiceThreesModel", "mix", "()I"⟩, 19) := ⟨⟨by decide +kernel, by decide +kernel⟩, List.mem_of_getElem? (i := 772) (by decide +kernel), List.mem_of_getElem? (i := 989) (by decide +kernel), List.mem_of_getElem? (i := 990) (by decide +kernel)⟩
theorem lw_p53 : lw_okq (⟨"SpiceThreesModel", "number", "()I"⟩, 19) := ⟨⟨by decide +kernel, by decide +kernel⟩, List.mem_of_getElem? (i := 772) (by decide +kernel), List.mem_of_getElem? (i := 996) (by decide +kernel), List.mem_of_getElem? (i := 997) (by decide +kernel)⟩
theorem lw_p54 : lw_okq (⟨"SpiceThreesModel", "cheapest", "(I)I"⟩, 19) := ⟨⟨by decide +kernel, by decide +kernel⟩, List.mem_of_getElem? (i := 772) (by decide +kernel), List.mem_of_getElem? (i := 1020) (by decide +kernel), List.mem_of_getElem? (i := 1021) (by decide +kernel)⟩
theorem lw_p55 : lw_okq (⟨"SpiceThreesModel", "told", "(II)I"⟩, 19) := ⟨⟨by decide +kernel, by decide +kernel⟩, List.mem_of_getElem? (i := 772) (by decide +kernel), List.mem_of_getElem? (i := 1024) (by decide +kernel), List.mem_of_getElem? (i := 1025) (by decide +kernel)⟩
theorem lw_p56 : lw_okq (⟨"SpiceThreesModel", "jarsLike", "(I)I"⟩, 19) := ⟨⟨by decide +kernel, by decide +kernel⟩, List.mem_of_getElem? (i := 772) (by decide +kernel), List.mem_of_getElem? (i := 1040) (by decide +kernel), List.mem_of_getElem? (i := 1041) (by decide +kernel)⟩
theorem lw_p57 : lw_okq (⟨"SpiceThreesModel", "nextShelf", "(I)I"⟩, 19) := ⟨⟨by decide +kernel, by decide +kernel⟩, List.mem_of_getElem? (i := 772) (by decide +kernel), List.mem_of_getElem? (i := 1056) (by decide +kernel), List.mem_of_getElem? (i := 1057) (by decide +kernel)⟩
theorem lw_p58 : lw_okq (⟨"SpiceThreesModel", "shelves", "()I"⟩, 19) := ⟨⟨by decide +kernel, by decide +kernel⟩, List.mem_of_getElem? (i := 772) (by decide +kernel), List.mem_of_getElem? (i := 1068) (by decide +kernel), List.mem_of_getElem? (i := 1069) (by decide +kernel)⟩
theorem lw_p59 : lw_okq (⟨"SpiceThreesModel", "unitsInJars", "()I"⟩, 19) := ⟨⟨by decide +kernel, by decide +kernel⟩, List.mem_of_getElem? (i := 772) (by decide +kernel), List.mem_of_getElem? (i := 1072) (by decide +kernel), List.mem_of_getElem? (i := 1073) (by decide +kernel)⟩
theorem lw_p60 : lw_okq (⟨"SpiceThreesModel", "laySums", "()I"⟩, 19) := ⟨⟨by decide +kernel, by decide +kernel⟩, List.mem_of_getElem? (i := 772) (by decide +kernel), List.mem_of_getElem? (i := 1084) (by decide +kernel), List.mem_of_getElem? (i := 1085) (by decide +kernel)⟩
def lw_privs_4 : List (MethodName × Nat) := [(⟨"SpiceThreesModel", "order", "(Z)I"⟩, 19), (⟨"SpiceThreesModel", "isNext", "(II)Z"⟩, 19), (⟨"SpiceThreesModel", "signs", "(IIII)V"⟩, 19), (⟨"SpiceThreesModel", "sign", "(II)I"⟩, 19), (⟨"SpiceThreesModel", "mix", "()I"⟩, 19), (⟨"SpiceThreesModel", "number", "()I"⟩, 19), (⟨"SpiceThreesModel", "cheapest", "(I)I"⟩, 19), (⟨"SpiceThreesModel", "told", "(II)I"⟩, 19), (⟨"SpiceThreesModel", "jarsLike", "(I)I"⟩, 19), (⟨"SpiceThreesModel", "nextShelf", "(I)I"⟩, 19), (⟨"SpiceThreesModel", "shelves", "()I"⟩, 19), (⟨"SpiceThreesModel", "unitsInJars", "()I"⟩, 19), (⟨"SpiceThreesModel", "laySums", "()I"⟩, 19)]
theorem lw_r4 : ∀ q ∈ lw_privs_4, lw_okq q := List.forall_mem_cons.mpr ⟨lw_p48, List.forall_mem_cons.mpr ⟨lw_p49, List.forall_mem_cons.mpr ⟨lw_p50, List.forall_mem_cons.mpr ⟨lw_p51, List.forall_mem_cons.mpr ⟨lw_p52, List.forall_mem_cons.mpr ⟨lw_p53, List.forall_mem_cons.mpr ⟨lw_p54, List.forall_mem_cons.mpr ⟨lw_p55, List.forall_mem_cons.mpr ⟨lw_p56, List.forall_mem_cons.mpr ⟨lw_p57, List.forall_mem_cons.mpr ⟨lw_p58, List.forall_mem_cons.mpr ⟨lw_p59, List.forall_mem_cons.mpr ⟨lw_p60, fun _ h => absurd h List.not_mem_nil⟩⟩⟩⟩⟩⟩⟩⟩⟩⟩⟩⟩⟩
def lw_privs : List (MethodName × Nat) := lw_privs_1 ++ (lw_privs_2 ++ (lw_privs_3 ++ (lw_privs_4)))
def lw_tbl : List Cond := k2_sels lw_privs ++ tables_1
theorem lw_privs_ok : ∀ q ∈ lw_privs, lw_okq q := by
  show ∀ q ∈ lw_privs_1 ++ (lw_privs_2 ++ (lw_privs_3 ++ (lw_privs_4))), lw_okq q
  exact List.forall_mem_append.mpr ⟨lw_r1, List.forall_mem_append.mpr ⟨lw_r2, List.forall_mem_append.mpr ⟨lw_r3, lw_r4⟩⟩⟩
/-- the streams that the claim lets the run draw from -/
abbrev lw_cs : List Choice := [Jvm.Choice.named "NaN.bits"]
theorem lw_bits : nanBits ∈ lw_cs := by first | decide | exact List.mem_cons_self | simp [lw_cs, nanBits]
def RX0 : String := "SpiceThrees$Acts"
def TX0 : u_T := fun k => match k with
  | 0 => ("SpiceThrees$Acts", "shop", "LSpiceThrees$Shop;", true)
  | 1 => ("SpiceThrees$Acts", "mixes", "LSpiceThrees$Mixes;", true)
  | 2 => ("SpiceThrees$Acts", "tastes", "LSpiceThrees$Tastes;", true)
  | _ => ("SpiceThrees$Acts", "amounts", "[I", true)
def tyX0 : Nat → FieldType := fun k => match k with
  | 0 => .object "SpiceThrees$Shop"
  | 1 => .object "SpiceThrees$Mixes"
  | 2 => .object "SpiceThrees$Tastes"
  | _ => .array .int
abbrev wsX00 : List Cond := u_ws RX0 TX0 4
theorem nmX0 : ∀ a, a < 4 → ∀ b, b < 4 → a ≠ b → (TX0 a).2.1 ≠ (TX0 b).2.1 := by decide +kernel
theorem tyX0_ok : ∀ k, k < 4 → parseFieldDescriptor (TX0 k).2.2.1 = some (tyX0 k) := by decide +kernel
abbrev cX0_init : ByteArray := prog_2_method_1_code
def yX0_init : MethodName := ⟨RX0, "<init>", "(LSpiceThrees$Shop;LSpiceThrees$Mixes;LSpiceThrees$Tastes;)V"⟩
abbrev cX0_bring : ByteArray := prog_2_method_2_code
def yX0_bring : MethodName := ⟨RX0, "bring", "(I)I"⟩
abbrev cX0_bringUnits : ByteArray := prog_2_method_3_code
def yX0_bringUnits : MethodName := ⟨RX0, "bringUnits", "([I)I"⟩
abbrev cX0_pourInto : ByteArray := prog_2_method_4_code
def yX0_pourInto : MethodName := ⟨RX0, "pourInto", "(II)I"⟩
abbrev cX0_buyAgain : ByteArray := prog_2_method_5_code
def yX0_buyAgain : MethodName := ⟨RX0, "buyAgain", "(I)I"⟩
abbrev cX0_mixInto : ByteArray := prog_2_method_6_code
def yX0_mixInto : MethodName := ⟨RX0, "mixInto", "(II)I"⟩
abbrev cX0_throwOut : ByteArray := prog_2_method_7_code
def yX0_throwOut : MethodName := ⟨RX0, "throwOut", "(I)I"⟩
abbrev cX0_makeBland : ByteArray := prog_2_method_8_code
def yX0_makeBland : MethodName := ⟨RX0, "makeBland", "(I)I"⟩
abbrev cX0_dropRule : ByteArray := prog_2_method_9_code
def yX0_dropRule : MethodName := ⟨RX0, "dropRule", "(I)I"⟩
abbrev cX0_setPrice : ByteArray := prog_2_method_10_code
def yX0_setPrice : MethodName := ⟨RX0, "setPrice", "(II)I"⟩
abbrev cX0_welcome : ByteArray := prog_2_method_11_code
def yX0_welcome : MethodName := ⟨RX0, "welcome", "(I)I"⟩
abbrev cX0_serveFirst : ByteArray := prog_2_method_12_code
def yX0_serveFirst : MethodName := ⟨RX0, "serveFirst", "()I"⟩
abbrev cX0_sell : ByteArray := prog_2_method_13_code
def yX0_sell : MethodName := ⟨RX0, "sell", "(I)I"⟩
abbrev cX0_performAll : ByteArray := prog_2_method_14_code
def yX0_performAll : MethodName := ⟨RX0, "performAll", "(LSpiceThrees$Text;)I"⟩
abbrev cX0_perform : ByteArray := prog_2_method_15_code
def yX0_perform : MethodName := ⟨RX0, "perform", "(LSpiceThrees$Text;)I"⟩
def RX1 : String := "SpiceThrees$Choices"
def TX1 : u_T := fun k => match k with
  | 0 => ("SpiceThrees$Choices", "mixes", "LSpiceThrees$Mixes;", true)
  | 1 => ("SpiceThrees$Choices", "sums", "[S", true)
  | 2 => ("SpiceThrees$Choices", "sets", "I", false)
  | _ => ("SpiceThrees$Choices", "seen", "[I", true)
def tyX1 : Nat → FieldType := fun k => match k with
  | 0 => .object "SpiceThrees$Mixes"
  | 1 => .array .short
  | 2 => .int
  | _ => .array .int
abbrev wsX10 : List Cond := u_ws RX1 TX1 4
theorem nmX1 : ∀ a, a < 4 → ∀ b, b < 4 → a ≠ b → (TX1 a).2.1 ≠ (TX1 b).2.1 := by decide +kernel
theorem tyX1_ok : ∀ k, k < 4 → parseFieldDescriptor (TX1 k).2.2.1 = some (tyX1 k) := by decide +kernel
abbrev cX1_init : ByteArray := prog_3_method_1_code
def yX1_init : MethodName := ⟨RX1, "<init>", "(LSpiceThrees$Mixes;)V"⟩
abbrev cX1_spread : ByteArray := prog_3_method_2_code
def yX1_spread : MethodName := ⟨RX1, "spread", "(LSpiceThrees$Tastes;LSpiceThrees$Shop;)V"⟩
abbrev cX1_smallestLike : ByteArray := prog_3_method_3_code
def yX1_smallestLike : MethodName := ⟨RX1, "smallestLike", "(I)I"⟩
abbrev cX1_differentTastes : ByteArray := prog_3_method_4_code
def yX1_differentTastes : MethodName := ⟨RX1, "differentTastes", "()I"⟩
def RX2 : String := "SpiceThrees$History"
def TX2 : u_T := fun k => match k with
  | 0 => ("SpiceThrees$History", "rows", "[LSpiceThrees$Shop;", true)
  | 1 => ("SpiceThrees$History", "next", "I", false)
  | _ => ("SpiceThrees$History", "size", "I", false)
def tyX2 : Nat → FieldType := fun k => match k with
  | 0 => .array (.object "SpiceThrees$Shop")
  | 1 => .int
  | _ => .int
abbrev wsX20 : List Cond := u_ws RX2 TX2 3
theorem nmX2 : ∀ a, a < 3 → ∀ b, b < 3 → a ≠ b → (TX2 a).2.1 ≠ (TX2 b).2.1 := by decide +kernel
theorem tyX2_ok : ∀ k, k < 3 → parseFieldDescriptor (TX2 k).2.2.1 = some (tyX2 k) := by decide +kernel
abbrev cX2_init : ByteArray := prog_4_method_1_code
def yX2_init : MethodName := ⟨RX2, "<init>", "()V"⟩
abbrev cX2_prepare : ByteArray := prog_4_method_2_code
def yX2_prepare : MethodName := ⟨RX2, "prepare", "(LSpiceThrees$Shop;)V"⟩
abbrev cX2_takeBack : ByteArray := prog_4_method_3_code
def yX2_takeBack : MethodName := ⟨RX2, "takeBack", "(LSpiceThrees$Shop;)V"⟩
abbrev cX2_record : ByteArray := prog_4_method_4_code
def yX2_record : MethodName := ⟨RX2, "record", "()V"⟩
abbrev cX2_stepBack : ByteArray := prog_4_method_5_code
def yX2_stepBack : MethodName := ⟨RX2, "stepBack", "(LSpiceThrees$Shop;)I"⟩
def RX3 : String := "SpiceThrees$Mixes"
def TX3 : u_T := fun k => match k with
  | _ => ("SpiceThrees$Mixes", "sums", "[B", true)
def tyX3 : Nat → FieldType := fun k => match k with
  | _ => .array .byte
abbrev wsX30 : List Cond := u_ws RX3 TX3 1
theorem nmX3 : ∀ a, a < 1 → ∀ b, b < 1 → a ≠ b → (TX3 a).2.1 ≠ (TX3 b).2.1 := by decide +kernel
theorem tyX3_ok : ∀ k, k < 1 → parseFieldDescriptor (TX3 k).2.2.1 = some (tyX3 k) := by decide +kernel
abbrev cX3_init : ByteArray := prog_5_method_1_code
def yX3_init : MethodName := ⟨RX3, "<init>", "()V"⟩
abbrev cX3_join : ByteArray := prog_5_method_2_code
def yX3_join : MethodName := ⟨RX3, "join", "(II)I"⟩
abbrev cX3_twice : ByteArray := prog_5_method_3_code
def yX3_twice : MethodName := ⟨RX3, "twice", "(I)I"⟩
def RX4 : String := "SpiceThrees$Shop"
def TX4 : u_T := fun k => match k with
  | 0 => ("SpiceThrees$Shop", "numbers", "[I", true)
  | 1 => ("SpiceThrees$Shop", "mixes", "[I", true)
  | 2 => ("SpiceThrees$Shop", "jars", "I", false)
  | 3 => ("SpiceThrees$Shop", "came", "I", false)
  | 4 => ("SpiceThrees$Shop", "rules", "[I", true)
  | 5 => ("SpiceThrees$Shop", "ruled", "I", false)
  | 6 => ("SpiceThrees$Shop", "prices", "[I", true)
  | 7 => ("SpiceThrees$Shop", "wants", "[I", true)
  | 8 => ("SpiceThrees$Shop", "waits", "I", false)
  | _ => ("SpiceThrees$Shop", "accounts", "[I", true)
def tyX4 : Nat → FieldType := fun k => match k with
  | 0 => .array .int
  | 1 => .array .int
  | 2 => .int
  | 3 => .int
  | 4 => .array .int
  | 5 => .int
  | 6 => .array .int
  | 7 => .array .int
  | 8 => .int
  | _ => .array .int
abbrev wsX40 : List Cond := u_ws RX4 TX4 10
theorem nmX4 : ∀ a, a < 10 → ∀ b, b < 10 → a ≠ b → (TX4 a).2.1 ≠ (TX4 b).2.1 := by decide +kernel
theorem tyX4_ok : ∀ k, k < 10 → parseFieldDescriptor (TX4 k).2.2.1 = some (tyX4 k) := by decide +kernel
abbrev cX4_init : ByteArray := prog_6_method_1_code
def yX4_init : MethodName := ⟨RX4, "<init>", "()V"⟩
abbrev cX4_copyFrom : ByteArray := prog_6_method_2_code
def yX4_copyFrom : MethodName := ⟨RX4, "copyFrom", "(LSpiceThrees$Shop;)V"⟩
abbrev cX4_placeOf : ByteArray := prog_6_method_3_code
def yX4_placeOf : MethodName := ⟨RX4, "placeOf", "(I)I"⟩
abbrev cX4_hasRoomForJar : ByteArray := prog_6_method_4_code
def yX4_hasRoomForJar : MethodName := ⟨RX4, "hasRoomForJar", "()Z"⟩
abbrev cX4_addJar : ByteArray := prog_6_method_5_code
def yX4_addJar : MethodName := ⟨RX4, "addJar", "(I)I"⟩
abbrev cX4_removeJar : ByteArray := prog_6_method_6_code
def yX4_removeJar : MethodName := ⟨RX4, "removeJar", "(I)V"⟩
abbrev cX4_removeRule : ByteArray := prog_6_method_7_code
def yX4_removeRule : MethodName := ⟨RX4, "removeRule", "(I)V"⟩
abbrev cX4_removeFirstWant : ByteArray := prog_6_method_8_code
def yX4_removeFirstWant : MethodName := ⟨RX4, "removeFirstWant", "()I"⟩
def RX5 : String := "SpiceThrees$Tastes"
def TX5 : u_T := fun k => match k with
  | 0 => ("SpiceThrees$Tastes", "mixes", "LSpiceThrees$Mixes;", true)
  | 1 => ("SpiceThrees$Tastes", "rules", "[I", true)
  | 2 => ("SpiceThrees$Tastes", "ruled", "I", false)
  | 3 => ("SpiceThrees$Tastes", "strength", "I", false)
  | 4 => ("SpiceThrees$Tastes", "leads", "[I", true)
  | 5 => ("SpiceThrees$Tastes", "trial", "[I", true)
  | 6 => ("SpiceThrees$Tastes", "parts", "[I", true)
  | 7 => ("SpiceThrees$Tastes", "lowCosts", "[I", true)
  | _ => ("SpiceThrees$Tastes", "highCosts", "[I", true)
def tyX5 : Nat → FieldType := fun k => match k with
  | 0 => .object "SpiceThrees$Mixes"
  | 1 => .array .int
  | 2 => .int
  | 3 => .int
  | 4 => .array .int
  | 5 => .array .int
  | 6 => .array .int
  | 7 => .array .int
  | _ => .array .int
abbrev wsX50 : List Cond := u_ws RX5 TX5 9
theorem nmX5 : ∀ a, a < 9 → ∀ b, b < 9 → a ≠ b → (TX5 a).2.1 ≠ (TX5 b).2.1 := by decide +kernel
theorem tyX5_ok : ∀ k, k < 9 → parseFieldDescriptor (TX5 k).2.2.1 = some (tyX5 k) := by decide +kernel
abbrev cX5_init : ByteArray := prog_7_method_1_code
def yX5_init : MethodName := ⟨RX5, "<init>", "(LSpiceThrees$Mixes;)V"⟩
abbrev cX5_learn : ByteArray := prog_7_method_2_code
def yX5_learn : MethodName := ⟨RX5, "learn", "(LSpiceThrees$Shop;)V"⟩
abbrev cX5_isLearned : ByteArray := prog_7_method_3_code
def yX5_isLearned : MethodName := ⟨RX5, "isLearned", "(LSpiceThrees$Shop;)Z"⟩
abbrev cX5_findLeads : ByteArray := prog_7_method_4_code
def yX5_findLeads : MethodName := ⟨RX5, "findLeads", "([II)I"⟩
abbrev cX5_highestSpice : ByteArray := prog_7_method_5_code
def yX5_highestSpice : MethodName := ⟨RX5, "highestSpice", "(I)I"⟩
abbrev cX5_collectParts : ByteArray := prog_7_method_6_code
def yX5_collectParts : MethodName := ⟨RX5, "collectParts", "()V"⟩
abbrev cX5_reduced : ByteArray := prog_7_method_7_code
def yX5_reduced : MethodName := ⟨RX5, "reduced", "([II)I"⟩
abbrev cX5_leastLike : ByteArray := prog_7_method_8_code
def yX5_leastLike : MethodName := ⟨RX5, "leastLike", "(I)I"⟩
abbrev cX5_firstJarLike : ByteArray := prog_7_method_9_code
def yX5_firstJarLike : MethodName := ⟨RX5, "firstJarLike", "(ILSpiceThrees$Shop;)I"⟩
abbrev cX5_someBlandLeads : ByteArray := prog_7_method_10_code
def yX5_someBlandLeads : MethodName := ⟨RX5, "someBlandLeads", "(II)Z"⟩
abbrev cX5_nextLike : ByteArray := prog_7_method_11_code
def yX5_nextLike : MethodName := ⟨RX5, "nextLike", "(II)I"⟩
abbrev cX5_cheapestLike : ByteArray := prog_7_method_12_code
def yX5_cheapestLike : MethodName := ⟨RX5, "cheapestLike", "(I[I)I"⟩
abbrev cX5_fillCosts : ByteArray := prog_7_method_13_code
def yX5_fillCosts : MethodName := ⟨RX5, "fillCosts", "([I)V"⟩
abbrev cX5_firstNeedless : ByteArray := prog_7_method_14_code
def yX5_firstNeedless : MethodName := ⟨RX5, "firstNeedless", "()I"⟩
def RX6 : String := "SpiceThrees$Text"
def TX6 : u_T := fun k => match k with
  | 0 => ("SpiceThrees$Text", "signs", "[C", true)
  | 1 => ("SpiceThrees$Text", "length", "I", false)
  | 2 => ("SpiceThrees$Text", "at", "I", false)
  | 3 => ("SpiceThrees$Text", "word", "I", false)
  | 4 => ("SpiceThrees$Text", "amounts", "[I", true)
  | 5 => ("SpiceThrees$Text", "first", "I", false)
  | _ => ("SpiceThrees$Text", "second", "I", false)
def tyX6 : Nat → FieldType := fun k => match k with
  | 0 => .array .char
  | 1 => .int
  | 2 => .int
  | 3 => .int
  | 4 => .array .int
  | 5 => .int
  | _ => .int
abbrev wsX60 : List Cond := u_ws RX6 TX6 7
theorem nmX6 : ∀ a, a < 7 → ∀ b, b < 7 → a ≠ b → (TX6 a).2.1 ≠ (TX6 b).2.1 := by decide +kernel
theorem tyX6_ok : ∀ k, k < 7 → parseFieldDescriptor (TX6 k).2.2.1 = some (tyX6 k) := by decide +kernel
abbrev cX6_init : ByteArray := prog_8_method_1_code
def yX6_init : MethodName := ⟨RX6, "<init>", "()V"⟩
abbrev cX6_append : ByteArray := prog_8_method_2_code
def yX6_append : MethodName := ⟨RX6, "append", "(C)I"⟩
abbrev cX6_empty : ByteArray := prog_8_method_3_code
def yX6_empty : MethodName := ⟨RX6, "empty", "()I"⟩
abbrev cX6_start : ByteArray := prog_8_method_4_code
def yX6_start : MethodName := ⟨RX6, "start", "()V"⟩
abbrev cX6_findFault : ByteArray := prog_8_method_5_code
def yX6_findFault : MethodName := ⟨RX6, "findFault", "()I"⟩
abbrev cX6_readOrder : ByteArray := prog_8_method_6_code
def yX6_readOrder : MethodName := ⟨RX6, "readOrder", "()Z"⟩
abbrev cX6_skip : ByteArray := prog_8_method_7_code
def yX6_skip : MethodName := ⟨RX6, "skip", "(C)Z"⟩
abbrev cX6_readWord : ByteArray := prog_8_method_8_code
def yX6_readWord : MethodName := ⟨RX6, "readWord", "()Z"⟩
abbrev cX6_wordWith : ByteArray := prog_8_method_9_code
def yX6_wordWith : MethodName := ⟨RX6, "wordWith", "(C)I"⟩
abbrev cX6_lettersOf : ByteArray := prog_8_method_10_code
def yX6_lettersOf : MethodName := ⟨RX6, "lettersOf", "(I)Ljava/lang/String;"⟩
abbrev cX6_readMix : ByteArray := prog_8_method_11_code
def yX6_readMix : MethodName := ⟨RX6, "readMix", "()Z"⟩
abbrev cX6_mixRead : ByteArray := prog_8_method_12_code
def yX6_mixRead : MethodName := ⟨RX6, "mixRead", "()I"⟩
abbrev cX6_readRuleNumber : ByteArray := prog_8_method_13_code
def yX6_readRuleNumber : MethodName := ⟨RX6, "readRuleNumber", "()Z"⟩
abbrev cX6_readFirst : ByteArray := prog_8_method_14_code
def yX6_readFirst : MethodName := ⟨RX6, "readFirst", "()Z"⟩
abbrev cX6_readSecond : ByteArray := prog_8_method_15_code
def yX6_readSecond : MethodName := ⟨RX6, "readSecond", "()Z"⟩
abbrev cX6_readJarNumber : ByteArray := prog_8_method_16_code
def yX6_readJarNumber : MethodName := ⟨RX6, "readJarNumber", "()I"⟩
abbrev cX6_spiceHere : ByteArray := prog_8_method_17_code
def yX6_spiceHere : MethodName := ⟨RX6, "spiceHere", "()I"⟩
abbrev cX6_digitHere : ByteArray := prog_8_method_18_code
def yX6_digitHere : MethodName := ⟨RX6, "digitHere", "()I"⟩
def RX7 : String := "SpiceThrees"
def TX7 : u_T := fun k => match k with
  | 0 => ("SpiceThrees", "mixes", "LSpiceThrees$Mixes;", true)
  | 1 => ("SpiceThrees", "tastes", "LSpiceThrees$Tastes;", true)
  | 2 => ("SpiceThrees", "shop", "LSpiceThrees$Shop;", true)
  | 3 => ("SpiceThrees", "kept", "LSpiceThrees$Shop;", true)
  | 4 => ("SpiceThrees", "hasKept", "Z", false)
  | 5 => ("SpiceThrees", "history", "LSpiceThrees$History;", true)
  | 6 => ("SpiceThrees", "acts", "LSpiceThrees$Acts;", true)
  | 7 => ("SpiceThrees", "text", "LSpiceThrees$Text;", true)
  | _ => ("SpiceThrees", "choices", "LSpiceThrees$Choices;", true)
def tyX7 : Nat → FieldType := fun k => match k with
  | 0 => .object "SpiceThrees$Mixes"
  | 1 => .object "SpiceThrees$Tastes"
  | 2 => .object "SpiceThrees$Shop"
  | 3 => .object "SpiceThrees$Shop"
  | 4 => .boolean
  | 5 => .object "SpiceThrees$History"
  | 6 => .object "SpiceThrees$Acts"
  | 7 => .object "SpiceThrees$Text"
  | _ => .object "SpiceThrees$Choices"
abbrev wsX70 : List Cond := u_ws RX7 TX7 9
theorem nmX7 : ∀ a, a < 9 → ∀ b, b < 9 → a ≠ b → (TX7 a).2.1 ≠ (TX7 b).2.1 := by decide +kernel
theorem tyX7_ok : ∀ k, k < 9 → parseFieldDescriptor (TX7 k).2.2.1 = some (tyX7 k) := by decide +kernel
abbrev cX7_init : ByteArray := prog_1_method_1_code
def yX7_init : MethodName := ⟨RX7, "<init>", "()V"⟩
abbrev cX7_jar : ByteArray := prog_1_method_2_code
def yX7_jar : MethodName := ⟨RX7, "jar", "(I)I"⟩
abbrev cX7_pour : ByteArray := prog_1_method_3_code
def yX7_pour : MethodName := ⟨RX7, "pour", "(II)I"⟩
abbrev cX7_more : ByteArray := prog_1_method_4_code
def yX7_more : MethodName := ⟨RX7, "more", "(I)I"⟩
abbrev cX7_throwAway : ByteArray := prog_1_method_5_code
def yX7_throwAway : MethodName := ⟨RX7, "throwAway", "(I)I"⟩
abbrev cX7_rule : ByteArray := prog_1_method_6_code
def yX7_rule : MethodName := ⟨RX7, "rule", "(I)I"⟩
abbrev cX7_drop : ByteArray := prog_1_method_7_code
def yX7_drop : MethodName := ⟨RX7, "drop", "(I)I"⟩
abbrev cX7_price : ByteArray := prog_1_method_8_code
def yX7_price : MethodName := ⟨RX7, "price", "(II)I"⟩
abbrev cX7_want : ByteArray := prog_1_method_9_code
def yX7_want : MethodName := ⟨RX7, "want", "(I)I"⟩
abbrev cX7_serve : ByteArray := prog_1_method_10_code
def yX7_serve : MethodName := ⟨RX7, "serve", "()I"⟩
abbrev cX7_type : ByteArray := prog_1_method_11_code
def yX7_type : MethodName := ⟨RX7, "type", "(C)I"⟩
abbrev cX7_clearText : ByteArray := prog_1_method_12_code
def yX7_clearText : MethodName := ⟨RX7, "clearText", "()I"⟩
abbrev cX7_fault : ByteArray := prog_1_method_13_code
def yX7_fault : MethodName := ⟨RX7, "fault", "()I"⟩
abbrev cX7_doAll : ByteArray := prog_1_method_14_code
def yX7_doAll : MethodName := ⟨RX7, "doAll", "()I"⟩
abbrev cX7_undo : ByteArray := prog_1_method_15_code
def yX7_undo : MethodName := ⟨RX7, "undo", "()I"⟩
abbrev cX7_keep : ByteArray := prog_1_method_16_code
def yX7_keep : MethodName := ⟨RX7, "keep", "()I"⟩
abbrev cX7_restore : ByteArray := prog_1_method_17_code
def yX7_restore : MethodName := ⟨RX7, "restore", "()I"⟩
abbrev cX7_ended : ByteArray := prog_1_method_18_code
def yX7_ended : MethodName := ⟨RX7, "ended", "(I)I"⟩
abbrev cX7_jarOf : ByteArray := prog_1_method_19_code
def yX7_jarOf : MethodName := ⟨RX7, "jarOf", "(II)I"⟩
abbrev cX7_ranked : ByteArray := prog_1_method_20_code
def yX7_ranked : MethodName := ⟨RX7, "ranked", "(I)I"⟩
abbrev cX7_ruleOf : ByteArray := prog_1_method_21_code
def yX7_ruleOf : MethodName := ⟨RX7, "ruleOf", "(I)I"⟩
abbrev cX7_mixOf : ByteArray := prog_1_method_22_code
def yX7_mixOf : MethodName := ⟨RX7, "mixOf", "(II)I"⟩
abbrev cX7_together : ByteArray := prog_1_method_23_code
def yX7_together : MethodName := ⟨RX7, "together", "(II)I"⟩
abbrev cX7_alike : ByteArray := prog_1_method_24_code
def yX7_alike : MethodName := ⟨RX7, "alike", "(IIZ)I"⟩
abbrev cX7_shelf : ByteArray := prog_1_method_25_code
def yX7_shelf : MethodName := ⟨RX7, "shelf", "(II)I"⟩
abbrev cX7_waiting : ByteArray := prog_1_method_26_code
def yX7_waiting : MethodName := ⟨RX7, "waiting", "(I)I"⟩
abbrev cX7_count : ByteArray := prog_1_method_27_code
def yX7_count : MethodName := ⟨RX7, "count", "(I)I"⟩
abbrev cX7_lost : ByteArray := prog_1_method_28_code
def yX7_lost : MethodName := ⟨RX7, "lost", "()D"⟩
abbrev cX7_accountTold : ByteArray := prog_1_method_29_code
def yX7_accountTold : MethodName := ⟨RX7, "accountTold", "(I)I"⟩
abbrev cX7_fewest : ByteArray := prog_1_method_30_code
def yX7_fewest : MethodName := ⟨RX7, "fewest", "(II)I"⟩
abbrev cX7_makes : ByteArray := prog_1_method_31_code
def yX7_makes : MethodName := ⟨RX7, "makes", "()I"⟩
abbrev cX7_needless : ByteArray := prog_1_method_32_code
def yX7_needless : MethodName := ⟨RX7, "needless", "()I"⟩
abbrev cX7_ifPoured : ByteArray := prog_1_method_33_code
def yX7_ifPoured : MethodName := ⟨RX7, "ifPoured", "(II)I"⟩
abbrev cX7_strength : ByteArray := prog_1_method_34_code
def yX7_strength : MethodName := ⟨RX7, "strength", "()I"⟩
abbrev cX7_tasteOf : ByteArray := prog_1_method_35_code
def yX7_tasteOf : MethodName := ⟨RX7, "tasteOf", "(I)I"⟩
abbrev cX7_cheapestLike : ByteArray := prog_1_method_36_code
def yX7_cheapestLike : MethodName := ⟨RX7, "cheapestLike", "(I)I"⟩
abbrev cX7_shelves : ByteArray := prog_1_method_37_code
def yX7_shelves : MethodName := ⟨RX7, "shelves", "()I"⟩
abbrev cX7_jarsLike : ByteArray := prog_1_method_38_code
def yX7_jarsLike : MethodName := ⟨RX7, "jarsLike", "(I)I"⟩
abbrev cX7_lowestJarLike : ByteArray := prog_1_method_39_code
def yX7_lowestJarLike : MethodName := ⟨RX7, "lowestJarLike", "(I)I"⟩
abbrev cX7_cheapestJarLike : ByteArray := prog_1_method_40_code
def yX7_cheapestJarLike : MethodName := ⟨RX7, "cheapestJarLike", "(I)I"⟩
abbrev cX7_tasteOfShelf : ByteArray := prog_1_method_41_code
def yX7_tasteOfShelf : MethodName := ⟨RX7, "tasteOfShelf", "(I)I"⟩
abbrev cX7_nextShelf : ByteArray := prog_1_method_42_code
def yX7_nextShelf : MethodName := ⟨RX7, "nextShelf", "(I)I"⟩
abbrev cX7_unitsInJars : ByteArray := prog_1_method_43_code
def yX7_unitsInJars : MethodName := ⟨RX7, "unitsInJars", "()I"⟩
abbrev cX7_isMix : ByteArray := prog_1_method_44_code
def yX7_isMix : MethodName := ⟨RX7, "isMix", "(I)Z"⟩
abbrev cX7_unitsOf : ByteArray := prog_1_method_45_code
def yX7_unitsOf : MethodName := ⟨RX7, "unitsOf", "(I)I"⟩
abbrev cX7_costOf : ByteArray := prog_1_method_46_code
def yX7_costOf : MethodName := ⟨RX7, "costOf", "(I[I)I"⟩
def RX8 : String := "SpiceThreesModel"
def TX8 : u_T := fun k => match k with
  | 0 => ("SpiceThreesModel", "s", "[I", true)
  | 1 => ("SpiceThreesModel", "aside", "[I", true)
  | 2 => ("SpiceThreesModel", "before", "[I", true)
  | 3 => ("SpiceThreesModel", "known", "I", false)
  | 4 => ("SpiceThreesModel", "kept", "[I", true)
  | 5 => ("SpiceThreesModel", "isKept", "Z", false)
  | 6 => ("SpiceThreesModel", "text", "[I", true)
  | 7 => ("SpiceThreesModel", "length", "I", false)
  | 8 => ("SpiceThreesModel", "isLaid", "Z", false)
  | 9 => ("SpiceThreesModel", "strength", "I", false)
  | 10 => ("SpiceThreesModel", "isBland", "[Z", true)
  | 11 => ("SpiceThreesModel", "tastes", "[I", true)
  | 12 => ("SpiceThreesModel", "blands", "[I", true)
  | 13 => ("SpiceThreesModel", "marks", "[Z", true)
  | 14 => ("SpiceThreesModel", "place", "I", false)
  | 15 => ("SpiceThreesModel", "isWrong", "Z", false)
  | 16 => ("SpiceThreesModel", "read", "I", false)
  | 17 => ("SpiceThreesModel", "readPrice", "I", false)
  | _ => ("SpiceThreesModel", "sums", "[I", true)
def tyX8 : Nat → FieldType := fun k => match k with
  | 0 => .array .int
  | 1 => .array .int
  | 2 => .array .int
  | 3 => .int
  | 4 => .array .int
  | 5 => .boolean
  | 6 => .array .int
  | 7 => .int
  | 8 => .boolean
  | 9 => .int
  | 10 => .array .boolean
  | 11 => .array .int
  | 12 => .array .int
  | 13 => .array .boolean
  | 14 => .int
  | 15 => .boolean
  | 16 => .int
  | 17 => .int
  | _ => .array .int
abbrev wsX80 : List Cond := u_ws RX8 TX8 19
theorem nmX8 : ∀ a, a < 19 → ∀ b, b < 19 → a ≠ b → (TX8 a).2.1 ≠ (TX8 b).2.1 := by decide +kernel
theorem tyX8_ok : ∀ k, k < 19 → parseFieldDescriptor (TX8 k).2.2.1 = some (tyX8 k) := by decide +kernel
abbrev cX8_init : ByteArray := prog_10_method_1_code
def yX8_init : MethodName := ⟨RX8, "<init>", "()V"⟩
abbrev cX8_in : ByteArray := prog_10_method_3_code
def yX8_in : MethodName := ⟨RX8, "in", "(III)Z"⟩
abbrev cX8_isMix : ByteArray := prog_10_method_4_code
def yX8_isMix : MethodName := ⟨RX8, "isMix", "(I)Z"⟩
abbrev cX8_putAside : ByteArray := prog_10_method_5_code
def yX8_putAside : MethodName := ⟨RX8, "putAside", "()V"⟩
abbrev cX8_act : ByteArray := prog_10_method_6_code
def yX8_act : MethodName := ⟨RX8, "act", "(I)I"⟩
abbrev cX8_mixed : ByteArray := prog_10_method_7_code
def yX8_mixed : MethodName := ⟨RX8, "mixed", "(II)I"⟩
abbrev cX8_units : ByteArray := prog_10_method_8_code
def yX8_units : MethodName := ⟨RX8, "units", "(I)I"⟩
abbrev cX8_priceOf : ByteArray := prog_10_method_9_code
def yX8_priceOf : MethodName := ⟨RX8, "priceOf", "(I)I"⟩
abbrev cX8_layBland : ByteArray := prog_10_method_10_code
def yX8_layBland : MethodName := ⟨RX8, "layBland", "(I)I"⟩
abbrev cX8_lay : ByteArray := prog_10_method_11_code
def yX8_lay : MethodName := ⟨RX8, "lay", "()V"⟩
abbrev cX8_taste : ByteArray := prog_10_method_12_code
def yX8_taste : MethodName := ⟨RX8, "taste", "(I)I"⟩
abbrev cX8_strength : ByteArray := prog_10_method_13_code
def yX8_strength : MethodName := ⟨RX8, "strength", "()I"⟩
abbrev cX8_power : ByteArray := prog_10_method_14_code
def yX8_power : MethodName := ⟨RX8, "power", "(I)I"⟩
abbrev cX8_cheapest : ByteArray := prog_10_method_15_code
def yX8_cheapest : MethodName := ⟨RX8, "cheapest", "(I)I"⟩
abbrev cX8_mixIn : ByteArray := prog_10_method_16_code
def yX8_mixIn : MethodName := ⟨RX8, "mixIn", "(I)I"⟩
abbrev cX8_numberOf : ByteArray := prog_10_method_17_code
def yX8_numberOf : MethodName := ⟨RX8, "numberOf", "(I)I"⟩
abbrev cX8_find : ByteArray := prog_10_method_18_code
def yX8_find : MethodName := ⟨RX8, "find", "(I)I"⟩
abbrev cX8_dropJar : ByteArray := prog_10_method_19_code
def yX8_dropJar : MethodName := ⟨RX8, "dropJar", "(I)V"⟩
abbrev cX8_jarsLike : ByteArray := prog_10_method_20_code
def yX8_jarsLike : MethodName := ⟨RX8, "jarsLike", "(I)I"⟩
abbrev cX8_unitsInJars : ByteArray := prog_10_method_21_code
def yX8_unitsInJars : MethodName := ⟨RX8, "unitsInJars", "()I"⟩
abbrev cX8_comes : ByteArray := prog_10_method_22_code
def yX8_comes : MethodName := ⟨RX8, "comes", "(III)I"⟩
abbrev cX8_pours : ByteArray := prog_10_method_23_code
def yX8_pours : MethodName := ⟨RX8, "pours", "(II)I"⟩
abbrev cX8_buysMore : ByteArray := prog_10_method_24_code
def yX8_buysMore : MethodName := ⟨RX8, "buysMore", "(I)I"⟩
abbrev cX8_rules : ByteArray := prog_10_method_25_code
def yX8_rules : MethodName := ⟨RX8, "rules", "(I)I"⟩
abbrev cX8_drops : ByteArray := prog_10_method_26_code
def yX8_drops : MethodName := ⟨RX8, "drops", "(I)I"⟩
abbrev cX8_wants : ByteArray := prog_10_method_27_code
def yX8_wants : MethodName := ⟨RX8, "wants", "(I)I"⟩
abbrev cX8_serves : ByteArray := prog_10_method_28_code
def yX8_serves : MethodName := ⟨RX8, "serves", "()I"⟩
abbrev cX8_jar : ByteArray := prog_10_method_29_code
def yX8_jar : MethodName := ⟨RX8, "jar", "(I)I"⟩
abbrev cX8_pour : ByteArray := prog_10_method_30_code
def yX8_pour : MethodName := ⟨RX8, "pour", "(II)I"⟩
abbrev cX8_more : ByteArray := prog_10_method_31_code
def yX8_more : MethodName := ⟨RX8, "more", "(I)I"⟩
abbrev cX8_throwAway : ByteArray := prog_10_method_32_code
def yX8_throwAway : MethodName := ⟨RX8, "throwAway", "(I)I"⟩
abbrev cX8_rule : ByteArray := prog_10_method_33_code
def yX8_rule : MethodName := ⟨RX8, "rule", "(I)I"⟩
abbrev cX8_drop : ByteArray := prog_10_method_34_code
def yX8_drop : MethodName := ⟨RX8, "drop", "(I)I"⟩
abbrev cX8_price : ByteArray := prog_10_method_35_code
def yX8_price : MethodName := ⟨RX8, "price", "(II)I"⟩
abbrev cX8_want : ByteArray := prog_10_method_36_code
def yX8_want : MethodName := ⟨RX8, "want", "(I)I"⟩
abbrev cX8_serve : ByteArray := prog_10_method_37_code
def yX8_serve : MethodName := ⟨RX8, "serve", "()I"⟩
abbrev cX8_type : ByteArray := prog_10_method_38_code
def yX8_type : MethodName := ⟨RX8, "type", "(C)I"⟩
abbrev cX8_clearText : ByteArray := prog_10_method_39_code
def yX8_clearText : MethodName := ⟨RX8, "clearText", "()I"⟩
abbrev cX8_sign : ByteArray := prog_10_method_40_code
def yX8_sign : MethodName := ⟨RX8, "sign", "(II)I"⟩
abbrev cX8_isNext : ByteArray := prog_10_method_41_code
def yX8_isNext : MethodName := ⟨RX8, "isNext", "(II)Z"⟩
abbrev cX8_signs : ByteArray := prog_10_method_42_code
def yX8_signs : MethodName := ⟨RX8, "signs", "(IIII)V"⟩
abbrev cX8_mix : ByteArray := prog_10_method_43_code
def yX8_mix : MethodName := ⟨RX8, "mix", "()I"⟩
abbrev cX8_number : ByteArray := prog_10_method_44_code
def yX8_number : MethodName := ⟨RX8, "number", "()I"⟩
abbrev cX8_order : ByteArray := prog_10_method_45_code
def yX8_order : MethodName := ⟨RX8, "order", "(Z)I"⟩
abbrev cX8_go : ByteArray := prog_10_method_46_code
def yX8_go : MethodName := ⟨RX8, "go", "(Z)I"⟩
abbrev cX8_fault : ByteArray := prog_10_method_47_code
def yX8_fault : MethodName := ⟨RX8, "fault", "()I"⟩
abbrev cX8_doAll : ByteArray := prog_10_method_48_code
def yX8_doAll : MethodName := ⟨RX8, "doAll", "()I"⟩
abbrev cX8_undo : ByteArray := prog_10_method_49_code
def yX8_undo : MethodName := ⟨RX8, "undo", "()I"⟩
abbrev cX8_keep : ByteArray := prog_10_method_50_code
def yX8_keep : MethodName := ⟨RX8, "keep", "()I"⟩
abbrev cX8_restore : ByteArray := prog_10_method_51_code
def yX8_restore : MethodName := ⟨RX8, "restore", "()I"⟩
abbrev cX8_told : ByteArray := prog_10_method_52_code
def yX8_told : MethodName := ⟨RX8, "told", "(II)I"⟩
abbrev cX8_jarOf : ByteArray := prog_10_method_53_code
def yX8_jarOf : MethodName := ⟨RX8, "jarOf", "(II)I"⟩
abbrev cX8_ranked : ByteArray := prog_10_method_54_code
def yX8_ranked : MethodName := ⟨RX8, "ranked", "(I)I"⟩
abbrev cX8_ruleOf : ByteArray := prog_10_method_55_code
def yX8_ruleOf : MethodName := ⟨RX8, "ruleOf", "(I)I"⟩
abbrev cX8_mixOf : ByteArray := prog_10_method_56_code
def yX8_mixOf : MethodName := ⟨RX8, "mixOf", "(II)I"⟩
abbrev cX8_together : ByteArray := prog_10_method_57_code
def yX8_together : MethodName := ⟨RX8, "together", "(II)I"⟩
abbrev cX8_alike : ByteArray := prog_10_method_58_code
def yX8_alike : MethodName := ⟨RX8, "alike", "(IIZ)I"⟩
abbrev cX8_nextShelf : ByteArray := prog_10_method_59_code
def yX8_nextShelf : MethodName := ⟨RX8, "nextShelf", "(I)I"⟩
abbrev cX8_shelf : ByteArray := prog_10_method_60_code
def yX8_shelf : MethodName := ⟨RX8, "shelf", "(II)I"⟩
abbrev cX8_waiting : ByteArray := prog_10_method_61_code
def yX8_waiting : MethodName := ⟨RX8, "waiting", "(I)I"⟩
abbrev cX8_shelves : ByteArray := prog_10_method_62_code
def yX8_shelves : MethodName := ⟨RX8, "shelves", "()I"⟩
abbrev cX8_count : ByteArray := prog_10_method_63_code
def yX8_count : MethodName := ⟨RX8, "count", "(I)I"⟩
abbrev cX8_lost : ByteArray := prog_10_method_64_code
def yX8_lost : MethodName := ⟨RX8, "lost", "()D"⟩
abbrev cX8_laySums : ByteArray := prog_10_method_65_code
def yX8_laySums : MethodName := ⟨RX8, "laySums", "()I"⟩
abbrev cX8_size : ByteArray := prog_10_method_66_code
def yX8_size : MethodName := ⟨RX8, "size", "(I)I"⟩
abbrev cX8_fewest : ByteArray := prog_10_method_67_code
def yX8_fewest : MethodName := ⟨RX8, "fewest", "(II)I"⟩
abbrev cX8_makes : ByteArray := prog_10_method_68_code
def yX8_makes : MethodName := ⟨RX8, "makes", "()I"⟩
abbrev cX8_needless : ByteArray := prog_10_method_69_code
def yX8_needless : MethodName := ⟨RX8, "needless", "()I"⟩
abbrev cX8_ifPoured : ByteArray := prog_10_method_70_code
def yX8_ifPoured : MethodName := ⟨RX8, "ifPoured", "(II)I"⟩
def RJx145de : String := "java/io/Serializable"
def RJx9f9b0 : String := "java/lang/CharSequence"
def RJxb160c : String := "java/lang/Comparable"
def RJ6 : String := "java/lang/Integer"
abbrev cJ6_bitCount_0f7a4 : ByteArray := prog_11_method_49_code
def yJ6_bitCount_0f7a4 : MethodName := ⟨RJ6, "bitCount", "(I)I"⟩
def RJ9 : String := "java/lang/Math"
abbrev cJ9_min_7cf53 : ByteArray := prog_12_method_69_code
def yJ9_min_7cf53 : MethodName := ⟨RJ9, "min", "(II)I"⟩
def RJ0 : String := "java/lang/String"
abbrev cJ0_length_8abf5 : ByteArray := prog_13_method_54_code
def yJ0_length_8abf5 : MethodName := ⟨RJ0, "length", "()I"⟩
abbrev cJ0_charAt_5068e : ByteArray := prog_13_method_56_code
def yJ0_charAt_5068e : MethodName := ⟨RJ0, "charAt", "(I)C"⟩
abbrev cJ0_coder_7d493 : ByteArray := prog_13_method_152_code
def yJ0_coder_7d493 : MethodName := ⟨RJ0, "coder", "()B"⟩
abbrev cJ0_isLatin1_aae02 : ByteArray := prog_13_method_154_code
def yJ0_isLatin1_aae02 : MethodName := ⟨RJ0, "isLatin1", "()Z"⟩
abbrev cJ0_checkIndex_df160 : ByteArray := prog_13_method_155_code
def yJ0_checkIndex_df160 : MethodName := ⟨RJ0, "checkIndex", "(II)V"⟩
def RJ1 : String := "java/lang/StringLatin1"
abbrev cJ1_charAt_3b067 : ByteArray := prog_14_method_2_code
def yJ1_charAt_3b067 : MethodName := ⟨RJ1, "charAt", "([BI)C"⟩
def RJ2 : String := "java/lang/StringUTF16"
abbrev cJ2_getChar_3b067 : ByteArray := prog_15_method_5_code
def yJ2_getChar_3b067 : MethodName := ⟨RJ2, "getChar", "([BI)C"⟩
abbrev cJ2_length_9d52b : ByteArray := prog_15_method_6_code
def yJ2_length_9d52b : MethodName := ⟨RJ2, "length", "([B)I"⟩
abbrev cJ2_charAt_3b067 : ByteArray := prog_15_method_83_code
def yJ2_charAt_3b067 : MethodName := ⟨RJ2, "charAt", "([BI)C"⟩
abbrev cJ2_checkIndex_2214a : ByteArray := prog_15_method_91_code
def yJ2_checkIndex_2214a : MethodName := ⟨RJ2, "checkIndex", "(I[B)V"⟩
def RJ10 : String := "java/lang/System"
def RJxfd54e : String := "java/lang/constant/Constable"
def RJx3cf43 : String := "java/lang/constant/ConstantDesc"
def RJ7 : String := "java/util/Arrays"
abbrev cJ7_fill_53178 : ByteArray := prog_17_method_103_code
def yJ7_fill_53178 : MethodName := ⟨RJ7, "fill", "([II)V"⟩
def RJ3 : String := "jdk/internal/util/Preconditions"
abbrev cJ3_checkIndex_8e157 : ByteArray := prog_18_method_11_code
def yJ3_checkIndex_8e157 : MethodName := ⟨RJ3, "checkIndex", "(IILjava/util/function/BiFunction;)I"⟩
def RL : String := "SpiceThreesLaw"
abbrev cL_law : ByteArray := code
def yL_law : MethodName := ⟨RL, "law", "([I)Z"⟩
abbrev vwCl : List vw_C := [(RX0, TX0, 4), (RX1, TX1, 4), (RX2, TX2, 3), (RX3, TX3, 1), (RX4, TX4, 10), (RX5, TX5, 9), (RX6, TX6, 7), (RX7, TX7, 9), (RX8, TX8, 19)]
theorem inX0 : ∀ w ∈ wsX00, w ∈ lw_tbl := by decide +kernel
theorem inX1 : ∀ w ∈ wsX10, w ∈ lw_tbl := by decide +kernel
theorem inX2 : ∀ w ∈ wsX20, w ∈ lw_tbl := by decide +kernel
theorem inX3 : ∀ w ∈ wsX30, w ∈ lw_tbl := by decide +kernel
theorem inX4 : ∀ w ∈ wsX40, w ∈ lw_tbl := by decide +kernel
theorem inX5 : ∀ w ∈ wsX50, w ∈ lw_tbl := by decide +kernel
theorem inX6 : ∀ w ∈ wsX60, w ∈ lw_tbl := by decide +kernel
theorem inX7 : ∀ w ∈ wsX70, w ∈ lw_tbl := by decide +kernel
theorem inX8 : ∀ w ∈ wsX80, w ∈ lw_tbl := by decide +kernel
