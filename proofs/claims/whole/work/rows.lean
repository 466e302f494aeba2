section
-- ===== PART A: goes FIRST, ahead of the names: the tables' words, and 'selects' of the private methods out of them =====
/-- a private method of a class that the tables say can be made, by its rows of tables_1 -/
def lw_okq (q : MethodName × Nat) : Prop := (q.1.cls ≠ "java/lang/invoke/MethodHandle" ∧ q.1.cls ≠ "java/lang/invoke/VarHandle") ∧ Cond.instantiable q.1.cls q.2 ∈ tables_1 ∧ Cond.privateMethod q.1 ∈ tables_1 ∧ Cond.instanceMethod q.1 ∈ tables_1
theorem lw_p0 : lw_okq (⟨"SpiceThrees", "ended", "(I)I"⟩, 9) := ⟨⟨by decide +kernel, by decide +kernel⟩, List.mem_of_getElem? (i := 19) (by decide +kernel), List.mem_of_getElem? (i := 297) (by decide +kernel), List.mem_of_getElem? (i := 298) (by decide +kernel)⟩
theorem lw_p1 : lw_okq (⟨"SpiceThrees$Acts", "mixInto", "(II)I"⟩, 4) := ⟨⟨by decide +kernel, by decide +kernel⟩, List.mem_of_getElem? (i := 157) (by decide +kernel), List.mem_of_getElem? (i := 320) (by decide +kernel), List.mem_of_getElem? (i := 321) (by decide +kernel)⟩
theorem lw_p2 : lw_okq (⟨"SpiceThrees", "strength", "()I"⟩, 9) := ⟨⟨by decide +kernel, by decide +kernel⟩, List.mem_of_getElem? (i := 19) (by decide +kernel), List.mem_of_getElem? (i := 359) (by decide +kernel), List.mem_of_getElem? (i := 360) (by decide +kernel)⟩
theorem lw_p3 : lw_okq (⟨"SpiceThrees$Tastes", "isLearned", "(LSpiceThrees$Shop;)Z"⟩, 10) := ⟨⟨by decide +kernel, by decide +kernel⟩, List.mem_of_getElem? (i := 38) (by decide +kernel), List.mem_of_getElem? (i := 367) (by decide +kernel), List.mem_of_getElem? (i := 368) (by decide +kernel)⟩
theorem lw_p4 : lw_okq (⟨"SpiceThrees$Tastes", "findLeads", "([II)I"⟩, 10) := ⟨⟨by decide +kernel, by decide +kernel⟩, List.mem_of_getElem? (i := 38) (by decide +kernel), List.mem_of_getElem? (i := 372) (by decide +kernel), List.mem_of_getElem? (i := 373) (by decide +kernel)⟩
theorem lw_p5 : lw_okq (⟨"SpiceThrees$Tastes", "reduced", "([II)I"⟩, 10) := ⟨⟨by decide +kernel, by decide +kernel⟩, List.mem_of_getElem? (i := 38) (by decide +kernel), List.mem_of_getElem? (i := 379) (by decide +kernel), List.mem_of_getElem? (i := 380) (by decide +kernel)⟩
theorem lw_p6 : lw_okq (⟨"SpiceThrees$Acts", "sell", "(I)I"⟩, 4) := ⟨⟨by decide +kernel, by decide +kernel⟩, List.mem_of_getElem? (i := 157) (by decide +kernel), List.mem_of_getElem? (i := 443) (by decide +kernel), List.mem_of_getElem? (i := 444) (by decide +kernel)⟩
theorem lw_p7 : lw_okq (⟨"SpiceThrees$Text", "readWord", "()Z"⟩, 7) := ⟨⟨by decide +kernel, by decide +kernel⟩, List.mem_of_getElem? (i := 176) (by decide +kernel), List.mem_of_getElem? (i := 479) (by decide +kernel), List.mem_of_getElem? (i := 480) (by decide +kernel)⟩
theorem lw_p8 : lw_okq (⟨"SpiceThrees$Text", "readRuleNumber", "()Z"⟩, 7) := ⟨⟨by decide +kernel, by decide +kernel⟩, List.mem_of_getElem? (i := 176) (by decide +kernel), List.mem_of_getElem? (i := 548) (by decide +kernel), List.mem_of_getElem? (i := 549) (by decide +kernel)⟩
theorem lw_p9 : lw_okq (⟨"SpiceThrees$Text", "digitHere", "()I"⟩, 7) := ⟨⟨by decide +kernel, by decide +kernel⟩, List.mem_of_getElem? (i := 176) (by decide +kernel), List.mem_of_getElem? (i := 552) (by decide +kernel), List.mem_of_getElem? (i := 553) (by decide +kernel)⟩
theorem lw_p10 : lw_okq (⟨"SpiceThrees$Text", "readFirst", "()Z"⟩, 7) := ⟨⟨by decide +kernel, by decide +kernel⟩, List.mem_of_getElem? (i := 176) (by decide +kernel), List.mem_of_getElem? (i := 556) (by decide +kernel), List.mem_of_getElem? (i := 557) (by decide +kernel)⟩
theorem lw_p11 : lw_okq (⟨"SpiceThrees$Text", "readJarNumber", "()I"⟩, 7) := ⟨⟨by decide +kernel, by decide +kernel⟩, List.mem_of_getElem? (i := 176) (by decide +kernel), List.mem_of_getElem? (i := 560) (by decide +kernel), List.mem_of_getElem? (i := 561) (by decide +kernel)⟩
theorem lw_p12 : lw_okq (⟨"SpiceThrees$Text", "readSecond", "()Z"⟩, 7) := ⟨⟨by decide +kernel, by decide +kernel⟩, List.mem_of_getElem? (i := 176) (by decide +kernel), List.mem_of_getElem? (i := 564) (by decide +kernel), List.mem_of_getElem? (i := 565) (by decide +kernel)⟩
theorem lw_p13 : lw_okq (⟨"SpiceThrees$Text", "readMix", "()Z"⟩, 7) := ⟨⟨by decide +kernel, by decide +kernel⟩, List.mem_of_getElem? (i := 176) (by decide +kernel), List.mem_of_getElem? (i := 568) (by decide +kernel), List.mem_of_getElem? (i := 569) (by decide +kernel)⟩
theorem lw_p14 : lw_okq (⟨"SpiceThrees$Text", "spiceHere", "()I"⟩, 7) := ⟨⟨by decide +kernel, by decide +kernel⟩, List.mem_of_getElem? (i := 176) (by decide +kernel), List.mem_of_getElem? (i := 573) (by decide +kernel), List.mem_of_getElem? (i := 574) (by decide +kernel)⟩
theorem lw_p15 : lw_okq (⟨"SpiceThrees$Acts", "perform", "(LSpiceThrees$Text;)I"⟩, 4) := ⟨⟨by decide +kernel, by decide +kernel⟩, List.mem_of_getElem? (i := 157) (by decide +kernel), List.mem_of_getElem? (i := 587) (by decide +kernel), List.mem_of_getElem? (i := 588) (by decide +kernel)⟩
def lw_privs_1 : List (MethodName × Nat) := [(⟨"SpiceThrees", "ended", "(I)I"⟩, 9), (⟨"SpiceThrees$Acts", "mixInto", "(II)I"⟩, 4), (⟨"SpiceThrees", "strength", "()I"⟩, 9), (⟨"SpiceThrees$Tastes", "isLearned", "(LSpiceThrees$Shop;)Z"⟩, 10), (⟨"SpiceThrees$Tastes", "findLeads", "([II)I"⟩, 10), (⟨"SpiceThrees$Tastes", "reduced", "([II)I"⟩, 10), (⟨"SpiceThrees$Acts", "sell", "(I)I"⟩, 4), (⟨"SpiceThrees$Text", "readWord", "()Z"⟩, 7), (⟨"SpiceThrees$Text", "readRuleNumber", "()Z"⟩, 7), (⟨"SpiceThrees$Text", "digitHere", "()I"⟩, 7), (⟨"SpiceThrees$Text", "readFirst", "()Z"⟩, 7), (⟨"SpiceThrees$Text", "readJarNumber", "()I"⟩, 7), (⟨"SpiceThrees$Text", "readSecond", "()Z"⟩, 7), (⟨"SpiceThrees$Text", "readMix", "()Z"⟩, 7), (⟨"SpiceThrees$Text", "spiceHere", "()I"⟩, 7), (⟨"SpiceThrees$Acts", "perform", "(LSpiceThrees$Text;)I"⟩, 4)]
theorem lw_r1 : ∀ q ∈ lw_privs_1, lw_okq q := List.forall_mem_cons.mpr ⟨lw_p0, List.forall_mem_cons.mpr ⟨lw_p1, List.forall_mem_cons.mpr ⟨lw_p2, List.forall_mem_cons.mpr ⟨lw_p3, List.forall_mem_cons.mpr ⟨lw_p4, List.forall_mem_cons.mpr ⟨lw_p5, List.forall_mem_cons.mpr ⟨lw_p6, List.forall_mem_cons.mpr ⟨lw_p7, List.forall_mem_cons.mpr ⟨lw_p8, List.forall_mem_cons.mpr ⟨lw_p9, List.forall_mem_cons.mpr ⟨lw_p10, List.forall_mem_cons.mpr ⟨lw_p11, List.forall_mem_cons.mpr ⟨lw_p12, List.forall_mem_cons.mpr ⟨lw_p13, List.forall_mem_cons.mpr ⟨lw_p14, List.forall_mem_cons.mpr ⟨lw_p15, fun _ h => absurd h List.not_mem_nil⟩⟩⟩⟩⟩⟩⟩⟩⟩⟩⟩⟩⟩⟩⟩⟩
theorem lw_p16 : lw_okq (⟨"SpiceThrees", "tasteOf", "(I)I"⟩, 9) := ⟨⟨by decide +kernel, by decide +kernel⟩, List.mem_of_getElem? (i := 19) (by decide +kernel), List.mem_of_getElem? (i := 631) (by decide +kernel), List.mem_of_getElem? (i := 632) (by decide +kernel)⟩
theorem lw_p17 : lw_okq (⟨"SpiceThrees", "cheapestLike", "(I)I"⟩, 9) := ⟨⟨by decide +kernel, by decide +kernel⟩, List.mem_of_getElem? (i := 19) (by decide +kernel), List.mem_of_getElem? (i := 636) (by decide +kernel), List.mem_of_getElem? (i := 637) (by decide +kernel)⟩
theorem lw_p18 : lw_okq (⟨"SpiceThrees$Tastes", "listBland", "()V"⟩, 10) := ⟨⟨by decide +kernel, by decide +kernel⟩, List.mem_of_getElem? (i := 38) (by decide +kernel), List.mem_of_getElem? (i := 644) (by decide +kernel), List.mem_of_getElem? (i := 645) (by decide +kernel)⟩
theorem lw_p19 : lw_okq (⟨"SpiceThrees$Tastes", "listWithLead", "(I)V"⟩, 10) := ⟨⟨by decide +kernel, by decide +kernel⟩, List.mem_of_getElem? (i := 38) (by decide +kernel), List.mem_of_getElem? (i := 648) (by decide +kernel), List.mem_of_getElem? (i := 649) (by decide +kernel)⟩
theorem lw_p20 : lw_okq (⟨"SpiceThrees$Tastes", "fillCosts", "([I)V"⟩, 10) := ⟨⟨by decide +kernel, by decide +kernel⟩, List.mem_of_getElem? (i := 38) (by decide +kernel), List.mem_of_getElem? (i := 652) (by decide +kernel), List.mem_of_getElem? (i := 653) (by decide +kernel)⟩
theorem lw_p21 : lw_okq (⟨"SpiceThrees", "jarsLike", "(I)I"⟩, 9) := ⟨⟨by decide +kernel, by decide +kernel⟩, List.mem_of_getElem? (i := 19) (by decide +kernel), List.mem_of_getElem? (i := 671) (by decide +kernel), List.mem_of_getElem? (i := 672) (by decide +kernel)⟩
theorem lw_p22 : lw_okq (⟨"SpiceThrees", "tasteOfShelf", "(I)I"⟩, 9) := ⟨⟨by decide +kernel, by decide +kernel⟩, List.mem_of_getElem? (i := 19) (by decide +kernel), List.mem_of_getElem? (i := 692) (by decide +kernel), List.mem_of_getElem? (i := 693) (by decide +kernel)⟩
theorem lw_p23 : lw_okq (⟨"SpiceThrees", "nextShelf", "(I)I"⟩, 9) := ⟨⟨by decide +kernel, by decide +kernel⟩, List.mem_of_getElem? (i := 19) (by decide +kernel), List.mem_of_getElem? (i := 696) (by decide +kernel), List.mem_of_getElem? (i := 697) (by decide +kernel)⟩
theorem lw_p24 : lw_okq (⟨"SpiceThrees", "lowestJarLike", "(I)I"⟩, 9) := ⟨⟨by decide +kernel, by decide +kernel⟩, List.mem_of_getElem? (i := 19) (by decide +kernel), List.mem_of_getElem? (i := 700) (by decide +kernel), List.mem_of_getElem? (i := 701) (by decide +kernel)⟩
theorem lw_p25 : lw_okq (⟨"SpiceThrees", "cheapestJarLike", "(I)I"⟩, 9) := ⟨⟨by decide +kernel, by decide +kernel⟩, List.mem_of_getElem? (i := 19) (by decide +kernel), List.mem_of_getElem? (i := 705) (by decide +kernel), List.mem_of_getElem? (i := 706) (by decide +kernel)⟩
theorem lw_p26 : lw_okq (⟨"SpiceThrees", "shelves", "()I"⟩, 9) := ⟨⟨by decide +kernel, by decide +kernel⟩, List.mem_of_getElem? (i := 19) (by decide +kernel), List.mem_of_getElem? (i := 717) (by decide +kernel), List.mem_of_getElem? (i := 718) (by decide +kernel)⟩
theorem lw_p27 : lw_okq (⟨"SpiceThrees", "unitsInJars", "()I"⟩, 9) := ⟨⟨by decide +kernel, by decide +kernel⟩, List.mem_of_getElem? (i := 19) (by decide +kernel), List.mem_of_getElem? (i := 721) (by decide +kernel), List.mem_of_getElem? (i := 722) (by decide +kernel)⟩
theorem lw_p28 : lw_okq (⟨"SpiceThrees", "accountTold", "(I)I"⟩, 9) := ⟨⟨by decide +kernel, by decide +kernel⟩, List.mem_of_getElem? (i := 19) (by decide +kernel), List.mem_of_getElem? (i := 725) (by decide +kernel), List.mem_of_getElem? (i := 726) (by decide +kernel)⟩
theorem lw_p29 : lw_okq (⟨"SpiceThreesModel", "putAside", "()V"⟩, 19) := ⟨⟨by decide +kernel, by decide +kernel⟩, List.mem_of_getElem? (i := 775) (by decide +kernel), List.mem_of_getElem? (i := 850) (by decide +kernel), List.mem_of_getElem? (i := 851) (by decide +kernel)⟩
theorem lw_p30 : lw_okq (⟨"SpiceThreesModel", "priceOf", "(I)I"⟩, 19) := ⟨⟨by decide +kernel, by decide +kernel⟩, List.mem_of_getElem? (i := 775) (by decide +kernel), List.mem_of_getElem? (i := 857) (by decide +kernel), List.mem_of_getElem? (i := 858) (by decide +kernel)⟩
theorem lw_p31 : lw_okq (⟨"SpiceThreesModel", "comes", "(III)I"⟩, 19) := ⟨⟨by decide +kernel, by decide +kernel⟩, List.mem_of_getElem? (i := 775) (by decide +kernel), List.mem_of_getElem? (i := 861) (by decide +kernel), List.mem_of_getElem? (i := 862) (by decide +kernel)⟩
def lw_privs_2 : List (MethodName × Nat) := [(⟨"SpiceThrees", "tasteOf", "(I)I"⟩, 9), (⟨"SpiceThrees", "cheapestLike", "(I)I"⟩, 9), (⟨"SpiceThrees$Tastes", "listBland", "()V"⟩, 10), (⟨"SpiceThrees$Tastes", "listWithLead", "(I)V"⟩, 10), (⟨"SpiceThrees$Tastes", "fillCosts", "([I)V"⟩, 10), (⟨"SpiceThrees", "jarsLike", "(I)I"⟩, 9), (⟨"SpiceThrees", "tasteOfShelf", "(I)I"⟩, 9), (⟨"SpiceThrees", "nextShelf", "(I)I"⟩, 9), (⟨"SpiceThrees", "lowestJarLike", "(I)I"⟩, 9), (⟨"SpiceThrees", "cheapestJarLike", "(I)I"⟩, 9), (⟨"SpiceThrees", "shelves", "()I"⟩, 9), (⟨"SpiceThrees", "unitsInJars", "()I"⟩, 9), (⟨"SpiceThrees", "accountTold", "(I)I"⟩, 9), (⟨"SpiceThreesModel", "putAside", "()V"⟩, 19), (⟨"SpiceThreesModel", "priceOf", "(I)I"⟩, 19), (⟨"SpiceThreesModel", "comes", "(III)I"⟩, 19)]
theorem lw_r2 : ∀ q ∈ lw_privs_2, lw_okq q := List.forall_mem_cons.mpr ⟨lw_p16, List.forall_mem_cons.mpr ⟨lw_p17, List.forall_mem_cons.mpr ⟨lw_p18, List.forall_mem_cons.mpr ⟨lw_p19, List.forall_mem_cons.mpr ⟨lw_p20, List.forall_mem_cons.mpr ⟨lw_p21, List.forall_mem_cons.mpr ⟨lw_p22, List.forall_mem_cons.mpr ⟨lw_p23, List.forall_mem_cons.mpr ⟨lw_p24, List.forall_mem_cons.mpr ⟨lw_p25, List.forall_mem_cons.mpr ⟨lw_p26, List.forall_mem_cons.mpr ⟨lw_p27, List.forall_mem_cons.mpr ⟨lw_p28, List.forall_mem_cons.mpr ⟨lw_p29, List.forall_mem_cons.mpr ⟨lw_p30, List.forall_mem_cons.mpr ⟨lw_p31, fun _ h => absurd h List.not_mem_nil⟩⟩⟩⟩⟩⟩⟩⟩⟩⟩⟩⟩⟩⟩⟩⟩
theorem lw_p32 : lw_okq (⟨"SpiceThreesModel", "act", "(I)I"⟩, 19) := ⟨⟨by decide +kernel, by decide +kernel⟩, List.mem_of_getElem? (i := 775) (by decide +kernel), List.mem_of_getElem? (i := 865) (by decide +kernel), List.mem_of_getElem? (i := 866) (by decide +kernel)⟩
theorem lw_p33 : lw_okq (⟨"SpiceThreesModel", "pours", "(II)I"⟩, 19) := ⟨⟨by decide +kernel, by decide +kernel⟩, List.mem_of_getElem? (i := 775) (by decide +kernel), List.mem_of_getElem? (i := 873) (by decide +kernel), List.mem_of_getElem? (i := 874) (by decide +kernel)⟩
theorem lw_p34 : lw_okq (⟨"SpiceThreesModel", "find", "(I)I"⟩, 19) := ⟨⟨by decide +kernel, by decide +kernel⟩, List.mem_of_getElem? (i := 775) (by decide +kernel), List.mem_of_getElem? (i := 877) (by decide +kernel), List.mem_of_getElem? (i := 878) (by decide +kernel)⟩
theorem lw_p35 : lw_okq (⟨"SpiceThreesModel", "numberOf", "(I)I"⟩, 19) := ⟨⟨by decide +kernel, by decide +kernel⟩, List.mem_of_getElem? (i := 775) (by decide +kernel), List.mem_of_getElem? (i := 881) (by decide +kernel), List.mem_of_getElem? (i := 882) (by decide +kernel)⟩
theorem lw_p36 : lw_okq (⟨"SpiceThreesModel", "mixIn", "(I)I"⟩, 19) := ⟨⟨by decide +kernel, by decide +kernel⟩, List.mem_of_getElem? (i := 775) (by decide +kernel), List.mem_of_getElem? (i := 885) (by decide +kernel), List.mem_of_getElem? (i := 886) (by decide +kernel)⟩
theorem lw_p37 : lw_okq (⟨"SpiceThreesModel", "buysMore", "(I)I"⟩, 19) := ⟨⟨by decide +kernel, by decide +kernel⟩, List.mem_of_getElem? (i := 775) (by decide +kernel), List.mem_of_getElem? (i := 896) (by decide +kernel), List.mem_of_getElem? (i := 897) (by decide +kernel)⟩
theorem lw_p38 : lw_okq (⟨"SpiceThreesModel", "dropJar", "(I)V"⟩, 19) := ⟨⟨by decide +kernel, by decide +kernel⟩, List.mem_of_getElem? (i := 775) (by decide +kernel), List.mem_of_getElem? (i := 904) (by decide +kernel), List.mem_of_getElem? (i := 905) (by decide +kernel)⟩
theorem lw_p39 : lw_okq (⟨"SpiceThreesModel", "rules", "(I)I"⟩, 19) := ⟨⟨by decide +kernel, by decide +kernel⟩, List.mem_of_getElem? (i := 775) (by decide +kernel), List.mem_of_getElem? (i := 912) (by decide +kernel), List.mem_of_getElem? (i := 913) (by decide +kernel)⟩
theorem lw_p40 : lw_okq (⟨"SpiceThreesModel", "strength", "()I"⟩, 19) := ⟨⟨by decide +kernel, by decide +kernel⟩, List.mem_of_getElem? (i := 775) (by decide +kernel), List.mem_of_getElem? (i := 916) (by decide +kernel), List.mem_of_getElem? (i := 917) (by decide +kernel)⟩
theorem lw_p41 : lw_okq (⟨"SpiceThreesModel", "lay", "()V"⟩, 19) := ⟨⟨by decide +kernel, by decide +kernel⟩, List.mem_of_getElem? (i := 775) (by decide +kernel), List.mem_of_getElem? (i := 920) (by decide +kernel), List.mem_of_getElem? (i := 921) (by decide +kernel)⟩
theorem lw_p42 : lw_okq (⟨"SpiceThreesModel", "layBland", "(I)I"⟩, 19) := ⟨⟨by decide +kernel, by decide +kernel⟩, List.mem_of_getElem? (i := 775) (by decide +kernel), List.mem_of_getElem? (i := 924) (by decide +kernel), List.mem_of_getElem? (i := 925) (by decide +kernel)⟩
theorem lw_p43 : lw_okq (⟨"SpiceThreesModel", "drops", "(I)I"⟩, 19) := ⟨⟨by decide +kernel, by decide +kernel⟩, List.mem_of_getElem? (i := 775) (by decide +kernel), List.mem_of_getElem? (i := 932) (by decide +kernel), List.mem_of_getElem? (i := 933) (by decide +kernel)⟩
theorem lw_p44 : lw_okq (⟨"SpiceThreesModel", "wants", "(I)I"⟩, 19) := ⟨⟨by decide +kernel, by decide +kernel⟩, List.mem_of_getElem? (i := 775) (by decide +kernel), List.mem_of_getElem? (i := 944) (by decide +kernel), List.mem_of_getElem? (i := 945) (by decide +kernel)⟩
theorem lw_p45 : lw_okq (⟨"SpiceThreesModel", "serves", "()I"⟩, 19) := ⟨⟨by decide +kernel, by decide +kernel⟩, List.mem_of_getElem? (i := 775) (by decide +kernel), List.mem_of_getElem? (i := 952) (by decide +kernel), List.mem_of_getElem? (i := 953) (by decide +kernel)⟩
theorem lw_p46 : lw_okq (⟨"SpiceThreesModel", "taste", "(I)I"⟩, 19) := ⟨⟨by decide +kernel, by decide +kernel⟩, List.mem_of_getElem? (i := 775) (by decide +kernel), List.mem_of_getElem? (i := 956) (by decide +kernel), List.mem_of_getElem? (i := 957) (by decide +kernel)⟩
theorem lw_p47 : lw_okq (⟨"SpiceThreesModel", "go", "(Z)I"⟩, 19) := ⟨⟨by decide +kernel, by decide +kernel⟩, List.mem_of_getElem? (i := 775) (by decide +kernel), List.mem_of_getElem? (i := 972) (by decide +kernel), List.mem_of_getElem? (i := 973) (by decide +kernel)⟩
def lw_privs_3 : List (MethodName × Nat) := [(⟨"SpiceThreesModel", "act", "(I)I"⟩, 19), (⟨"SpiceThreesModel", "pours", "(II)I"⟩, 19), (⟨"SpiceThreesModel", "find", "(I)I"⟩, 19), (⟨"SpiceThreesModel", "numberOf", "(I)I"⟩, 19), (⟨"SpiceThreesModel", "mixIn", "(I)I"⟩, 19), (⟨"SpiceThreesModel", "buysMore", "(I)I"⟩, 19), (⟨"SpiceThreesModel", "dropJar", "(I)V"⟩, 19), (⟨"SpiceThreesModel", "rules", "(I)I"⟩, 19), (⟨"SpiceThreesModel", "strength", "()I"⟩, 19), (⟨"SpiceThreesModel", "lay", "()V"⟩, 19), (⟨"SpiceThreesModel", "layBland", "(I)I"⟩, 19), (⟨"SpiceThreesModel", "drops", "(I)I"⟩, 19), (⟨"SpiceThreesModel", "wants", "(I)I"⟩, 19), (⟨"SpiceThreesModel", "serves", "()I"⟩, 19), (⟨"SpiceThreesModel", "taste", "(I)I"⟩, 19), (⟨"SpiceThreesModel", "go", "(Z)I"⟩, 19)]
theorem lw_r3 : ∀ q ∈ lw_privs_3, lw_okq q := List.forall_mem_cons.mpr ⟨lw_p32, List.forall_mem_cons.mpr ⟨lw_p33, List.forall_mem_cons.mpr ⟨lw_p34, List.forall_mem_cons.mpr ⟨lw_p35, List.forall_mem_cons.mpr ⟨lw_p36, List.forall_mem_cons.mpr ⟨lw_p37, List.forall_mem_cons.mpr ⟨lw_p38, List.forall_mem_cons.mpr ⟨lw_p39, List.forall_mem_cons.mpr ⟨lw_p40, List.forall_mem_cons.mpr ⟨lw_p41, List.forall_mem_cons.mpr ⟨lw_p42, List.forall_mem_cons.mpr ⟨lw_p43, List.forall_mem_cons.mpr ⟨lw_p44, List.forall_mem_cons.mpr ⟨lw_p45, List.forall_mem_cons.mpr ⟨lw_p46, List.forall_mem_cons.mpr ⟨lw_p47, fun _ h => absurd h List.not_mem_nil⟩⟩⟩⟩⟩⟩⟩⟩⟩⟩⟩⟩⟩⟩⟩⟩
theorem lw_p48 : lw_okq (⟨"SpiceThreesModel", "order", "(Z)I"⟩, 19) := ⟨⟨by decide +kernel, by decide +kernel⟩, List.mem_of_getElem? (i := 775) (by decide +kernel), List.mem_of_getElem? (i := 976) (by decide +kernel), List.mem_of_getElem? (i := 977) (by decide +kernel)⟩
theorem lw_p49 : lw_okq (⟨"SpiceThreesModel", "isNext", "(II)Z"⟩, 19) := ⟨⟨by decide +kernel, by decide +kernel⟩, List.mem_of_getElem? (i := 775) (by decide +kernel), List.mem_of_getElem? (i := 980) (by decide +kernel), List.mem_of_getElem? (i := 981) (by decide +kernel)⟩
theorem lw_p50 : lw_okq (⟨"SpiceThreesModel", "signs", "(IIII)V"⟩, 19) := ⟨⟨by decide +kernel, by decide +kernel⟩, List.mem_of_getElem? (i := 775) (by decide +kernel), List.mem_of_getElem? (i := 984) (by decide +kernel), List.mem_of_getElem? (i := 985) (by decide +kernel)⟩
theorem lw_p51 : lw_okq (⟨"SpiceThreesModel", "sign", "(II)I"⟩, 19) := ⟨⟨by decide +kernel, by decide +kernel⟩, List.mem_of_getElem? (i := 775) (by decide +kernel), List.mem_of_getElem? (i := 988) (by decide +kernel), List.mem_of_getElem? (i := 989) (by decide +kernel)⟩
theorem lw_p52 : lw_okq (⟨"SpiceThreesModel", "mix", "()I"⟩, 19) := ⟨⟨by decide +kernel, by decide +kernel⟩, List.mem_of_getElem? (i := 775) (by decide +kernel), List.mem_of_getElem? (i := 992) (by decide +kernel), List.mem_of_getElem? (i := 993) (by decide +kernel)⟩
theorem lw_p53 : lw_okq (⟨"SpiceThreesModel", "number", "()I"⟩, 19) := ⟨⟨by decide +kernel, by decide +kernel⟩, List.mem_of_getElem? (i := 775) (by decide +kernel), List.mem_of_getElem? (i := 999) (by decide +kernel), List.mem_of_getElem? (i := 1000) (by decide +kernel)⟩
theorem lw_p54 : lw_okq (⟨"SpiceThreesModel", "cheapest", "(I)I"⟩, 19) := ⟨⟨by decide +kernel, by decide +kernel⟩, List.mem_of_getElem? (i := 775) (by decide +kernel), List.mem_of_getElem? (i := 1023) (by decide +kernel), List.mem_of_getElem? (i := 1024) (by decide +kernel)⟩
theorem lw_p55 : lw_okq (⟨"SpiceThreesModel", "told", "(II)I"⟩, 19) := ⟨⟨by decide +kernel, by decide +kernel⟩, List.mem_of_getElem? (i := 775) (by decide +kernel), List.mem_of_getElem? (i := 1027) (by decide +kernel), List.mem_of_getElem? (i := 1028) (by decide +kernel)⟩
theorem lw_p56 : lw_okq (⟨"SpiceThreesModel", "jarsLike", "(I)I"⟩, 19) := ⟨⟨by decide +kernel, by decide +kernel⟩, List.mem_of_getElem? (i := 775) (by decide +kernel), List.mem_of_getElem? (i := 1043) (by decide +kernel), List.mem_of_getElem? (i := 1044) (by decide +kernel)⟩
theorem lw_p57 : lw_okq (⟨"SpiceThreesModel", "nextShelf", "(I)I"⟩, 19) := ⟨⟨by decide +kernel, by decide +kernel⟩, List.mem_of_getElem? (i := 775) (by decide +kernel), List.mem_of_getElem? (i := 1059) (by decide +kernel), List.mem_of_getElem? (i := 1060) (by decide +kernel)⟩
theorem lw_p58 : lw_okq (⟨"SpiceThreesModel", "shelves", "()I"⟩, 19) := ⟨⟨by decide +kernel, by decide +kernel⟩, List.mem_of_getElem? (i := 775) (by decide +kernel), List.mem_of_getElem? (i := 1071) (by decide +kernel), List.mem_of_getElem? (i := 1072) (by decide +kernel)⟩
theorem lw_p59 : lw_okq (⟨"SpiceThreesModel", "unitsInJars", "()I"⟩, 19) := ⟨⟨by decide +kernel, by decide +kernel⟩, List.mem_of_getElem? (i := 775) (by decide +kernel), List.mem_of_getElem? (i := 1075) (by decide +kernel), List.mem_of_getElem? (i := 1076) (by decide +kernel)⟩
theorem lw_p60 : lw_okq (⟨"SpiceThreesModel", "laySums", "()I"⟩, 19) := ⟨⟨by decide +kernel, by decide +kernel⟩, List.mem_of_getElem? (i := 775) (by decide +kernel), List.mem_of_getElem? (i := 1087) (by decide +kernel), List.mem_of_getElem? (i := 1088) (by decide +kernel)⟩
def lw_privs_4 : List (MethodName × Nat) := [(⟨"SpiceThreesModel", "order", "(Z)I"⟩, 19), (⟨"SpiceThreesModel", "isNext", "(II)Z"⟩, 19), (⟨"SpiceThreesModel", "signs", "(IIII)V"⟩, 19), (⟨"SpiceThreesModel", "sign", "(II)I"⟩, 19), (⟨"SpiceThreesModel", "mix", "()I"⟩, 19), (⟨"SpiceThreesModel", "number", "()I"⟩, 19), (⟨"SpiceThreesModel", "cheapest", "(I)I"⟩, 19), (⟨"SpiceThreesModel", "told", "(II)I"⟩, 19), (⟨"SpiceThreesModel", "jarsLike", "(I)I"⟩, 19), (⟨"SpiceThreesModel", "nextShelf", "(I)I"⟩, 19), (⟨"SpiceThreesModel", "shelves", "()I"⟩, 19), (⟨"SpiceThreesModel", "unitsInJars", "()I"⟩, 19), (⟨"SpiceThreesModel", "laySums", "()I"⟩, 19)]
theorem lw_r4 : ∀ q ∈ lw_privs_4, lw_okq q := List.forall_mem_cons.mpr ⟨lw_p48, List.forall_mem_cons.mpr ⟨lw_p49, List.forall_mem_cons.mpr ⟨lw_p50, List.forall_mem_cons.mpr ⟨lw_p51, List.forall_mem_cons.mpr ⟨lw_p52, List.forall_mem_cons.mpr ⟨lw_p53, List.forall_mem_cons.mpr ⟨lw_p54, List.forall_mem_cons.mpr ⟨lw_p55, List.forall_mem_cons.mpr ⟨lw_p56, List.forall_mem_cons.mpr ⟨lw_p57, List.forall_mem_cons.mpr ⟨lw_p58, List.forall_mem_cons.mpr ⟨lw_p59, List.forall_mem_cons.mpr ⟨lw_p60, fun _ h => absurd h List.not_mem_nil⟩⟩⟩⟩⟩⟩⟩⟩⟩⟩⟩⟩⟩
def lw_privs : List (MethodName × Nat) := lw_privs_1 ++ (lw_privs_2 ++ (lw_privs_3 ++ (lw_privs_4)))
def lw_tbl : List Cond := k2_sels lw_privs ++ tables_1
theorem lw_privs_ok : ∀ q ∈ lw_privs, lw_okq q := by
  show ∀ q ∈ lw_privs_1 ++ (lw_privs_2 ++ (lw_privs_3 ++ (lw_privs_4))), lw_okq q
  exact List.forall_mem_append.mpr ⟨lw_r1, List.forall_mem_append.mpr ⟨lw_r2, List.forall_mem_append.mpr ⟨lw_r3, lw_r4⟩⟩⟩
/-- the streams that the claim lets the run draw from -/
abbrev lw_cs : List Choice := [Jvm.Choice.named "NaN.bits"]
theorem lw_bits : nanBits ∈ lw_cs := by first | decide | exact List.mem_cons_self | simp [lw_cs, nanBits]
def RX0 : String := "SpiceThrees$Acts"
def TX0 : u_T := fun k => match k with
  | 0 => ("SpiceThrees$Acts", "shop", "LSpiceThrees$Shop;", true)
  | 1 => ("SpiceThrees$Acts", "mixes", "LSpiceThrees$Mixes;", true)
  | 2 => ("SpiceThrees$Acts", "tastes", "LSpiceThrees$Tastes;", true)
  | _ => ("SpiceThrees$Acts", "amounts", "[I", true)
def tyX0 : Nat → FieldType := fun k => match k with
  | 0 => .object "SpiceThrees$Shop"
  | 1 => .object "SpiceThrees$Mixes"
  | 2 => .object "SpiceThrees$Tastes"
  | _ => .array .int
abbrev wsX00 : List Cond := u_ws RX0 TX0 4
theorem nmX0 : ∀ a, a < 4 → ∀ b, b < 4 → a ≠ b → (TX0 a).2.1 ≠ (TX0 b).2.1 := by decide +kernel
theorem tyX0_ok : ∀ k, k < 4 → parseFieldDescriptor (TX0 k).2.2.1 = some (tyX0 k) := by decide +kernel
abbrev cX0_init : ByteArray := prog_2_method_1_code
def yX0_init : MethodName := ⟨RX0, "<init>", "(LSpiceThrees$Shop;LSpiceThrees$Mixes;LSpiceThrees$Tastes;)V"⟩
abbrev cX0_bring : ByteArray := prog_2_method_2_code
def yX0_bring : MethodName := ⟨RX0, "bring", "(I)I"⟩
abbrev cX0_bringUnits : ByteArray := prog_2_method_3_code
def yX0_bringUnits : MethodName := ⟨RX0, "bringUnits", "([I)I"⟩
abbrev cX0_pourInto : ByteArray := prog_2_method_4_code
def yX0_pourInto : MethodName := ⟨RX0, "pourInto", "(II)I"⟩
abbrev cX0_buyAgain : ByteArray := prog_2_method_5_code
def yX0_buyAgain : MethodName := ⟨RX0, "buyAgain", "(I)I"⟩
abbrev cX0_mixInto : ByteArray := prog_2_method_6_code
def yX0_mixInto : MethodName := ⟨RX0, "mixInto", "(II)I"⟩
abbrev cX0_throwOut : ByteArray := prog_2_method_7_code
def yX0_throwOut : MethodName := ⟨RX0, "throwOut", "(I)I"⟩
abbrev cX0_makeBland : ByteArray := prog_2_method_8_code
def yX0_makeBland : MethodName := ⟨RX0, "makeBland", "(I)I"⟩
abbrev cX0_dropRule : ByteArray := prog_2_method_9_code
def yX0_dropRule : MethodName := ⟨RX0, "dropRule", "(I)I"⟩
abbrev cX0_setPrice : ByteArray := prog_2_method_10_code
def yX0_setPrice : MethodName := ⟨RX0, "setPrice", "(II)I"⟩
abbrev cX0_welcome : ByteArray := prog_2_method_11_code
def yX0_welcome : MethodName := ⟨RX0, "welcome", "(I)I"⟩
abbrev cX0_serveFirst : ByteArray := prog_2_method_12_code
def yX0_serveFirst : MethodName := ⟨RX0, "serveFirst", "()I"⟩
abbrev cX0_sell : ByteArray := prog_2_method_13_code
def yX0_sell : MethodName := ⟨RX0, "sell", "(I)I"⟩
abbrev cX0_performAll : ByteArray := prog_2_method_14_code
def yX0_performAll : MethodName := ⟨RX0, "performAll", "(LSpiceThrees$Text;)I"⟩
abbrev cX0_perform : ByteArray := prog_2_method_15_code
def yX0_perform : MethodName := ⟨RX0, "perform", "(LSpiceThrees$Text;)I"⟩
def RX1 : String := "SpiceThrees$Choices"
def TX1 : u_T := fun k => match k with
  | 0 => ("SpiceThrees$Choices", "mixes", "LSpiceThrees$Mixes;", true)
  | 1 => ("SpiceThrees$Choices", "sums", "[S", true)
  | 2 => ("SpiceThrees$Choices", "sets", "I", false)
  | _ => ("SpiceThrees$Choices", "seen", "[I", true)
def tyX1 : Nat → FieldType := fun k => match k with
  | 0 => .object "SpiceThrees$Mixes"
  | 1 => .array .short
  | 2 => .int
  | _ => .array .int
abbrev wsX10 : List Cond := u_ws RX1 TX1 4
theorem nmX1 : ∀ a, a < 4 → ∀ b, b < 4 → a ≠ b → (TX1 a).2.1 ≠ (TX1 b).2.1 := by decide +kernel
theorem tyX1_ok : ∀ k, k < 4 → parseFieldDescriptor (TX1 k).2.2.1 = some (tyX1 k) := by decide +kernel
abbrev cX1_init : ByteArray := prog_3_method_1_code
def yX1_init : MethodName := ⟨RX1, "<init>", "(LSpiceThrees$Mixes;)V"⟩
abbrev cX1_spread : ByteArray := prog_3_method_2_code
def yX1_spread : MethodName := ⟨RX1, "spread", "(LSpiceThrees$Tastes;LSpiceThrees$Shop;)V"⟩
abbrev cX1_smallestLike : ByteArray := prog_3_method_3_code
def yX1_smallestLike : MethodName := ⟨RX1, "smallestLike", "(I)I"⟩
abbrev cX1_differentTastes : ByteArray := prog_3_method_4_code
def yX1_differentTastes : MethodName := ⟨RX1, "differentTastes", "()I"⟩
def RX2 : String := "SpiceThrees$History"
def TX2 : u_T := fun k => match k with
  | 0 => ("SpiceThrees$History", "rows", "[LSpiceThrees$Shop;", true)
  | 1 => ("SpiceThrees$History", "next", "I", false)
  | _ => ("SpiceThrees$History", "size", "I", false)
def tyX2 : Nat → FieldType := fun k => match k with
  | 0 => .array (.object "SpiceThrees$Shop")
  | 1 => .int
  | _ => .int
abbrev wsX20 : List Cond := u_ws RX2 TX2 3
theorem nmX2 : ∀ a, a < 3 → ∀ b, b < 3 → a ≠ b → (TX2 a).2.1 ≠ (TX2 b).2.1 := by decide +kernel
theorem tyX2_ok : ∀ k, k < 3 → parseFieldDescriptor (TX2 k).2.2.1 = some (tyX2 k) := by decide +kernel
abbrev cX2_init : ByteArray := prog_4_method_1_code
def yX2_init : MethodName := ⟨RX2, "<init>", "()V"⟩
abbrev cX2_prepare : ByteArray := prog_4_method_2_code
def yX2_prepare : MethodName := ⟨RX2, "prepare", "(LSpiceThrees$Shop;)V"⟩
abbrev cX2_takeBack : ByteArray := prog_4_method_3_code
def yX2_takeBack : MethodName := ⟨RX2, "takeBack", "(LSpiceThrees$Shop;)V"⟩
abbrev cX2_record : ByteArray := prog_4_method_4_code
def yX2_record : MethodName := ⟨RX2, "record", "()V"⟩
abbrev cX2_stepBack : ByteArray := prog_4_method_5_code
def yX2_stepBack : MethodName := ⟨RX2, "stepBack", "(LSpiceThrees$Shop;)I"⟩
def RX3 : String := "SpiceThrees$Mixes"
def TX3 : u_T := fun k => match k with
  | _ => ("SpiceThrees$Mixes", "sums", "[B", true)
def tyX3 : Nat → FieldType := fun k => match k with
  | _ => .array .byte
abbrev wsX30 : List Cond := u_ws RX3 TX3 1
theorem nmX3 : ∀ a, a < 1 → ∀ b, b < 1 → a ≠ b → (TX3 a).2.1 ≠ (TX3 b).2.1 := by decide +kernel
theorem tyX3_ok : ∀ k, k < 1 → parseFieldDescriptor (TX3 k).2.2.1 = some (tyX3 k) := by decide +kernel
abbrev cX3_init : ByteArray := prog_5_method_1_code
def yX3_init : MethodName := ⟨RX3, "<init>", "()V"⟩
abbrev cX3_join : ByteArray := prog_5_method_2_code
def yX3_join : MethodName := ⟨RX3, "join", "(II)I"⟩
abbrev cX3_twice : ByteArray := prog_5_method_3_code
def yX3_twice : MethodName := ⟨RX3, "twice", "(I)I"⟩
def RX4 : String := "SpiceThrees$Shop"
def TX4 : u_T := fun k => match k with
  | 0 => ("SpiceThrees$Shop", "numbers", "[I", true)
  | 1 => ("SpiceThrees$Shop", "mixes", "[I", true)
  | 2 => ("SpiceThrees$Shop", "jars", "I", false)
  | 3 => ("SpiceThrees$Shop", "came", "I", false)
  | 4 => ("SpiceThrees$Shop", "rules", "[I", true)
  | 5 => ("SpiceThrees$Shop", "ruled", "I", false)
  | 6 => ("SpiceThrees$Shop", "prices", "[I", true)
  | 7 => ("SpiceThrees$Shop", "wants", "[I", true)
  | 8 => ("SpiceThrees$Shop", "waits", "I", false)
  | _ => ("SpiceThrees$Shop", "accounts", "[I", true)
def tyX4 : Nat → FieldType := fun k => match k with
  | 0 => .array .int
  | 1 => .array .int
  | 2 => .int
  | 3 => .int
  | 4 => .array .int
  | 5 => .int
  | 6 => .array .int
  | 7 => .array .int
  | 8 => .int
  | _ => .array .int
abbrev wsX40 : List Cond := u_ws RX4 TX4 10
theorem nmX4 : ∀ a, a < 10 → ∀ b, b < 10 → a ≠ b → (TX4 a).2.1 ≠ (TX4 b).2.1 := by decide +kernel
theorem tyX4_ok : ∀ k, k < 10 → parseFieldDescriptor (TX4 k).2.2.1 = some (tyX4 k) := by decide +kernel
abbrev cX4_init : ByteArray := prog_6_method_1_code
def yX4_init : MethodName := ⟨RX4, "<init>", "()V"⟩
abbrev cX4_copyFrom : ByteArray := prog_6_method_2_code
def yX4_copyFrom : MethodName := ⟨RX4, "copyFrom", "(LSpiceThrees$Shop;)V"⟩
abbrev cX4_placeOf : ByteArray := prog_6_method_3_code
def yX4_placeOf : MethodName := ⟨RX4, "placeOf", "(I)I"⟩
abbrev cX4_hasRoomForJar : ByteArray := prog_6_method_4_code
def yX4_hasRoomForJar : MethodName := ⟨RX4, "hasRoomForJar", "()Z"⟩
abbrev cX4_addJar : ByteArray := prog_6_method_5_code
def yX4_addJar : MethodName := ⟨RX4, "addJar", "(I)I"⟩
abbrev cX4_removeJar : ByteArray := prog_6_method_6_code
def yX4_removeJar : MethodName := ⟨RX4, "removeJar", "(I)V"⟩
abbrev cX4_removeRule : ByteArray := prog_6_method_7_code
def yX4_removeRule : MethodName := ⟨RX4, "removeRule", "(I)V"⟩
abbrev cX4_removeFirstWant : ByteArray := prog_6_method_8_code
def yX4_removeFirstWant : MethodName := ⟨RX4, "removeFirstWant", "()I"⟩
def RX5 : String := "SpiceThrees$Tastes"
def TX5 : u_T := fun k => match k with
  | 0 => ("SpiceThrees$Tastes", "mixes", "LSpiceThrees$Mixes;", true)
  | 1 => ("SpiceThrees$Tastes", "rules", "[I", true)
  | 2 => ("SpiceThrees$Tastes", "ruled", "I", false)
  | 3 => ("SpiceThrees$Tastes", "strength", "I", false)
  | 4 => ("SpiceThrees$Tastes", "leads", "[I", true)
  | 5 => ("SpiceThrees$Tastes", "trial", "[I", true)
  | 6 => ("SpiceThrees$Tastes", "bland", "[S", true)
  | 7 => ("SpiceThrees$Tastes", "listed", "I", false)
  | 8 => ("SpiceThrees$Tastes", "lowCosts", "[I", true)
  | _ => ("SpiceThrees$Tastes", "highCosts", "[I", true)
def tyX5 : Nat → FieldType := fun k => match k with
  | 0 => .object "SpiceThrees$Mixes"
  | 1 => .array .int
  | 2 => .int
  | 3 => .int
  | 4 => .array .int
  | 5 => .array .int
  | 6 => .array .short
  | 7 => .int
  | 8 => .array .int
  | _ => .array .int
abbrev wsX50 : List Cond := u_ws RX5 TX5 10
theorem nmX5 : ∀ a, a < 10 → ∀ b, b < 10 → a ≠ b → (TX5 a).2.1 ≠ (TX5 b).2.1 := by decide +kernel
theorem tyX5_ok : ∀ k, k < 10 → parseFieldDescriptor (TX5 k).2.2.1 = some (tyX5 k) := by decide +kernel
abbrev cX5_init : ByteArray := prog_7_method_1_code
def yX5_init : MethodName := ⟨RX5, "<init>", "(LSpiceThrees$Mixes;)V"⟩
abbrev cX5_learn : ByteArray := prog_7_method_2_code
def yX5_learn : MethodName := ⟨RX5, "learn", "(LSpiceThrees$Shop;)V"⟩
abbrev cX5_isLearned : ByteArray := prog_7_method_3_code
def yX5_isLearned : MethodName := ⟨RX5, "isLearned", "(LSpiceThrees$Shop;)Z"⟩
abbrev cX5_findLeads : ByteArray := prog_7_method_4_code
def yX5_findLeads : MethodName := ⟨RX5, "findLeads", "([II)I"⟩
abbrev cX5_highestSpice : ByteArray := prog_7_method_5_code
def yX5_highestSpice : MethodName := ⟨RX5, "highestSpice", "(I)I"⟩
abbrev cX5_reduced : ByteArray := prog_7_method_6_code
def yX5_reduced : MethodName := ⟨RX5, "reduced", "([II)I"⟩
abbrev cX5_leastLike : ByteArray := prog_7_method_7_code
def yX5_leastLike : MethodName := ⟨RX5, "leastLike", "(I)I"⟩
abbrev cX5_firstJarLike : ByteArray := prog_7_method_8_code
def yX5_firstJarLike : MethodName := ⟨RX5, "firstJarLike", "(ILSpiceThrees$Shop;)I"⟩
abbrev cX5_someBlandLeads : ByteArray := prog_7_method_9_code
def yX5_someBlandLeads : MethodName := ⟨RX5, "someBlandLeads", "(II)Z"⟩
abbrev cX5_cheapestLike : ByteArray := prog_7_method_10_code
def yX5_cheapestLike : MethodName := ⟨RX5, "cheapestLike", "(I[I)I"⟩
abbrev cX5_fillCosts : ByteArray := prog_7_method_11_code
def yX5_fillCosts : MethodName := ⟨RX5, "fillCosts", "([I)V"⟩
abbrev cX5_listBland : ByteArray := prog_7_method_12_code
def yX5_listBland : MethodName := ⟨RX5, "listBland", "()V"⟩
abbrev cX5_listWithLead : ByteArray := prog_7_method_13_code
def yX5_listWithLead : MethodName := ⟨RX5, "listWithLead", "(I)V"⟩
abbrev cX5_firstNeedless : ByteArray := prog_7_method_14_code
def yX5_firstNeedless : MethodName := ⟨RX5, "firstNeedless", "()I"⟩
def RX6 : String := "SpiceThrees$Text"
def TX6 : u_T := fun k => match k with
  | 0 => ("SpiceThrees$Text", "signs", "[C", true)
  | 1 => ("SpiceThrees$Text", "length", "I", false)
  | 2 => ("SpiceThrees$Text", "at", "I", false)
  | 3 => ("SpiceThrees$Text", "word", "I", false)
  | 4 => ("SpiceThrees$Text", "amounts", "[I", true)
  | 5 => ("SpiceThrees$Text", "first", "I", false)
  | _ => ("SpiceThrees$Text", "second", "I", false)
def tyX6 : Nat → FieldType := fun k => match k with
  | 0 => .array .char
  | 1 => .int
  | 2 => .int
  | 3 => .int
  | 4 => .array .int
  | 5 => .int
  | _ => .int
abbrev wsX60 : List Cond := u_ws RX6 TX6 7
theorem nmX6 : ∀ a, a < 7 → ∀ b, b < 7 → a ≠ b → (TX6 a).2.1 ≠ (TX6 b).2.1 := by decide +kernel
theorem tyX6_ok : ∀ k, k < 7 → parseFieldDescriptor (TX6 k).2.2.1 = some (tyX6 k) := by decide +kernel
abbrev cX6_init : ByteArray := prog_8_method_1_code
def yX6_init : MethodName := ⟨RX6, "<init>", "()V"⟩
abbrev cX6_append : ByteArray := prog_8_method_2_code
def yX6_append : MethodName := ⟨RX6, "append", "(C)I"⟩
abbrev cX6_empty : ByteArray := prog_8_method_3_code
def yX6_empty : MethodName := ⟨RX6, "empty", "()I"⟩
abbrev cX6_start : ByteArray := prog_8_method_4_code
def yX6_start : MethodName := ⟨RX6, "start", "()V"⟩
abbrev cX6_findFault : ByteArray := prog_8_method_5_code
def yX6_findFault : MethodName := ⟨RX6, "findFault", "()I"⟩
abbrev cX6_readOrder : ByteArray := prog_8_method_6_code
def yX6_readOrder : MethodName := ⟨RX6, "readOrder", "()Z"⟩
abbrev cX6_skip : ByteArray := prog_8_method_7_code
def yX6_skip : MethodName := ⟨RX6, "skip", "(C)Z"⟩
abbrev cX6_readWord : ByteArray := prog_8_method_8_code
def yX6_readWord : MethodName := ⟨RX6, "readWord", "()Z"⟩
abbrev cX6_wordWith : ByteArray := prog_8_method_9_code
def yX6_wordWith : MethodName := ⟨RX6, "wordWith", "(C)I"⟩
abbrev cX6_lettersOf : ByteArray := prog_8_method_10_code
def yX6_lettersOf : MethodName := ⟨RX6, "lettersOf", "(I)Ljava/lang/String;"⟩
abbrev cX6_readMix : ByteArray := prog_8_method_11_code
def yX6_readMix : MethodName := ⟨RX6, "readMix", "()Z"⟩
abbrev cX6_mixRead : ByteArray := prog_8_method_12_code
def yX6_mixRead : MethodName := ⟨RX6, "mixRead", "()I"⟩
abbrev cX6_readRuleNumber : ByteArray := prog_8_method_13_code
def yX6_readRuleNumber : MethodName := ⟨RX6, "readRuleNumber", "()Z"⟩
abbrev cX6_readFirst : ByteArray := prog_8_method_14_code
def yX6_readFirst : MethodName := ⟨RX6, "readFirst", "()Z"⟩
abbrev cX6_readSecond : ByteArray := prog_8_method_15_code
def yX6_readSecond : MethodName := ⟨RX6, "readSecond", "()Z"⟩
abbrev cX6_readJarNumber : ByteArray := prog_8_method_16_code
def yX6_readJarNumber : MethodName := ⟨RX6, "readJarNumber", "()I"⟩
abbrev cX6_spiceHere : ByteArray := prog_8_method_17_code
def yX6_spiceHere : MethodName := ⟨RX6, "spiceHere", "()I"⟩
abbrev cX6_digitHere : ByteArray := prog_8_method_18_code
def yX6_digitHere : MethodName := ⟨RX6, "digitHere", "()I"⟩
def RX7 : String := "SpiceThrees"
def TX7 : u_T := fun k => match k with
  | 0 => ("SpiceThrees", "mixes", "LSpiceThrees$Mixes;", true)
  | 1 => ("SpiceThrees", "tastes", "LSpiceThrees$Tastes;", true)
  | 2 => ("SpiceThrees", "shop", "LSpiceThrees$Shop;", true)
  | 3 => ("SpiceThrees", "kept", "LSpiceThrees$Shop;", true)
  | 4 => ("SpiceThrees", "hasKept", "Z", false)
  | 5 => ("SpiceThrees", "history", "LSpiceThrees$History;", true)
  | 6 => ("SpiceThrees", "acts", "LSpiceThrees$Acts;", true)
  | 7 => ("SpiceThrees", "text", "LSpiceThrees$Text;", true)
  | _ => ("SpiceThrees", "choices", "LSpiceThrees$Choices;", true)
def tyX7 : Nat → FieldType := fun k => match k with
  | 0 => .object "SpiceThrees$Mixes"
  | 1 => .object "SpiceThrees$Tastes"
  | 2 => .object "SpiceThrees$Shop"
  | 3 => .object "SpiceThrees$Shop"
  | 4 => .boolean
  | 5 => .object "SpiceThrees$History"
  | 6 => .object "SpiceThrees$Acts"
  | 7 => .object "SpiceThrees$Text"
  | _ => .object "SpiceThrees$Choices"
abbrev wsX70 : List Cond := u_ws RX7 TX7 9
theorem nmX7 : ∀ a, a < 9 → ∀ b, b < 9 → a ≠ b → (TX7 a).2.1 ≠ (TX7 b).2.1 := by decide +kernel
theorem tyX7_ok : ∀ k, k < 9 → parseFieldDescriptor (TX7 k).2.2.1 = some (tyX7 k) := by decide +kernel
abbrev cX7_init : ByteArray := prog_1_method_1_code
def yX7_init : MethodName := ⟨RX7, "<init>", "()V"⟩
abbrev cX7_jar : ByteArray := prog_1_method_2_code
def yX7_jar : MethodName := ⟨RX7, "jar", "(I)I"⟩
abbrev cX7_pour : ByteArray := prog_1_method_3_code
def yX7_pour : MethodName := ⟨RX7, "pour", "(II)I"⟩
abbrev cX7_more : ByteArray := prog_1_method_4_code
def yX7_more : MethodName := ⟨RX7, "more", "(I)I"⟩
abbrev cX7_throwAway : ByteArray := prog_1_method_5_code
def yX7_throwAway : MethodName := ⟨RX7, "throwAway", "(I)I"⟩
abbrev cX7_rule : ByteArray := prog_1_method_6_code
def yX7_rule : MethodName := ⟨RX7, "rule", "(I)I"⟩
abbrev cX7_drop : ByteArray := prog_1_method_7_code
def yX7_drop : MethodName := ⟨RX7, "drop", "(I)I"⟩
abbrev cX7_price : ByteArray := prog_1_method_8_code
def yX7_price : MethodName := ⟨RX7, "price", "(II)I"⟩
abbrev cX7_want : ByteArray := prog_1_method_9_code
def yX7_want : MethodName := ⟨RX7, "want", "(I)I"⟩
abbrev cX7_serve : ByteArray := prog_1_method_10_code
def yX7_serve : MethodName := ⟨RX7, "serve", "()I"⟩
abbrev cX7_type : ByteArray := prog_1_method_11_code
def yX7_type : MethodName := ⟨RX7, "type", "(C)I"⟩
abbrev cX7_clearText : ByteArray := prog_1_method_12_code
def yX7_clearText : MethodName := ⟨RX7, "clearText", "()I"⟩
abbrev cX7_fault : ByteArray := prog_1_method_13_code
def yX7_fault : MethodName := ⟨RX7, "fault", "()I"⟩
abbrev cX7_doAll : ByteArray := prog_1_method_14_code
def yX7_doAll : MethodName := ⟨RX7, "doAll", "()I"⟩
abbrev cX7_undo : ByteArray := prog_1_method_15_code
def yX7_undo : MethodName := ⟨RX7, "undo", "()I"⟩
abbrev cX7_keep : ByteArray := prog_1_method_16_code
def yX7_keep : MethodName := ⟨RX7, "keep", "()I"⟩
abbrev cX7_restore : ByteArray := prog_1_method_17_code
def yX7_restore : MethodName := ⟨RX7, "restore", "()I"⟩
abbrev cX7_ended : ByteArray := prog_1_method_18_code
def yX7_ended : MethodName := ⟨RX7, "ended", "(I)I"⟩
abbrev cX7_jarOf : ByteArray := prog_1_method_19_code
def yX7_jarOf : MethodName := ⟨RX7, "jarOf", "(II)I"⟩
abbrev cX7_ranked : ByteArray := prog_1_method_20_code
def yX7_ranked : MethodName := ⟨RX7, "ranked", "(I)I"⟩
abbrev cX7_ruleOf : ByteArray := prog_1_method_21_code
def yX7_ruleOf : MethodName := ⟨RX7, "ruleOf", "(I)I"⟩
abbrev cX7_mixOf : ByteArray := prog_1_method_22_code
def yX7_mixOf : MethodName := ⟨RX7, "mixOf", "(II)I"⟩
abbrev cX7_together : ByteArray := prog_1_method_23_code
def yX7_together : MethodName := ⟨RX7, "together", "(II)I"⟩
abbrev cX7_alike : ByteArray := prog_1_method_24_code
def yX7_alike : MethodName := ⟨RX7, "alike", "(IIZ)I"⟩
abbrev cX7_shelf : ByteArray := prog_1_method_25_code
def yX7_shelf : MethodName := ⟨RX7, "shelf", "(II)I"⟩
abbrev cX7_waiting : ByteArray := prog_1_method_26_code
def yX7_waiting : MethodName := ⟨RX7, "waiting", "(I)I"⟩
abbrev cX7_count : ByteArray := prog_1_method_27_code
def yX7_count : MethodName := ⟨RX7, "count", "(I)I"⟩
abbrev cX7_lost : ByteArray := prog_1_method_28_code
def yX7_lost : MethodName := ⟨RX7, "lost", "()D"⟩
abbrev cX7_accountTold : ByteArray := prog_1_method_29_code
def yX7_accountTold : MethodName := ⟨RX7, "accountTold", "(I)I"⟩
abbrev cX7_fewest : ByteArray := prog_1_method_30_code
def yX7_fewest : MethodName := ⟨RX7, "fewest", "(II)I"⟩
abbrev cX7_makes : ByteArray := prog_1_method_31_code
def yX7_makes : MethodName := ⟨RX7, "makes", "()I"⟩
abbrev cX7_needless : ByteArray := prog_1_method_32_code
def yX7_needless : MethodName := ⟨RX7, "needless", "()I"⟩
abbrev cX7_ifPoured : ByteArray := prog_1_method_33_code
def yX7_ifPoured : MethodName := ⟨RX7, "ifPoured", "(II)I"⟩
abbrev cX7_strength : ByteArray := prog_1_method_34_code
def yX7_strength : MethodName := ⟨RX7, "strength", "()I"⟩
abbrev cX7_tasteOf : ByteArray := prog_1_method_35_code
def yX7_tasteOf : MethodName := ⟨RX7, "tasteOf", "(I)I"⟩
abbrev cX7_cheapestLike : ByteArray := prog_1_method_36_code
def yX7_cheapestLike : MethodName := ⟨RX7, "cheapestLike", "(I)I"⟩
abbrev cX7_shelves : ByteArray := prog_1_method_37_code
def yX7_shelves : MethodName := ⟨RX7, "shelves", "()I"⟩
abbrev cX7_jarsLike : ByteArray := prog_1_method_38_code
def yX7_jarsLike : MethodName := ⟨RX7, "jarsLike", "(I)I"⟩
abbrev cX7_lowestJarLike : ByteArray := prog_1_method_39_code
def yX7_lowestJarLike : MethodName := ⟨RX7, "lowestJarLike", "(I)I"⟩
abbrev cX7_cheapestJarLike : ByteArray := prog_1_method_40_code
def yX7_cheapestJarLike : MethodName := ⟨RX7, "cheapestJarLike", "(I)I"⟩
abbrev cX7_tasteOfShelf : ByteArray := prog_1_method_41_code
def yX7_tasteOfShelf : MethodName := ⟨RX7, "tasteOfShelf", "(I)I"⟩
abbrev cX7_nextShelf : ByteArray := prog_1_method_42_code
def yX7_nextShelf : MethodName := ⟨RX7, "nextShelf", "(I)I"⟩
abbrev cX7_unitsInJars : ByteArray := prog_1_method_43_code
def yX7_unitsInJars : MethodName := ⟨RX7, "unitsInJars", "()I"⟩
abbrev cX7_isMix : ByteArray := prog_1_method_44_code
def yX7_isMix : MethodName := ⟨RX7, "isMix", "(I)Z"⟩
abbrev cX7_unitsOf : ByteArray := prog_1_method_45_code
def yX7_unitsOf : MethodName := ⟨RX7, "unitsOf", "(I)I"⟩
abbrev cX7_costOf : ByteArray := prog_1_method_46_code
def yX7_costOf : MethodName := ⟨RX7, "costOf", "(I[I)I"⟩
def RX8 : String := "SpiceThreesModel"
def TX8 : u_T := fun k => match k with
  | 0 => ("SpiceThreesModel", "s", "[I", true)
  | 1 => ("SpiceThreesModel", "aside", "[I", true)
  | 2 => ("SpiceThreesModel", "before", "[I", true)
  | 3 => ("SpiceThreesModel", "known", "I", false)
  | 4 => ("SpiceThreesModel", "kept", "[I", true)
  | 5 => ("SpiceThreesModel", "isKept", "Z", false)
  | 6 => ("SpiceThreesModel", "text", "[I", true)
  | 7 => ("SpiceThreesModel", "length", "I", false)
  | 8 => ("SpiceThreesModel", "isLaid", "Z", false)
  | 9 => ("SpiceThreesModel", "strength", "I", false)
  | 10 => ("SpiceThreesModel", "isBland", "[Z", true)
  | 11 => ("SpiceThreesModel", "tastes", "[I", true)
  | 12 => ("SpiceThreesModel", "blands", "[I", true)
  | 13 => ("SpiceThreesModel", "marks", "[Z", true)
  | 14 => ("SpiceThreesModel", "place", "I", false)
  | 15 => ("SpiceThreesModel", "isWrong", "Z", false)
  | 16 => ("SpiceThreesModel", "read", "I", false)
  | 17 => ("SpiceThreesModel", "readPrice", "I", false)
  | _ => ("SpiceThreesModel", "sums", "[I", true)
def tyX8 : Nat → FieldType := fun k => match k with
  | 0 => .array .int
  | 1 => .array .int
  | 2 => .array .int
  | 3 => .int
  | 4 => .array .int
  | 5 => .boolean
  | 6 => .array .int
  | 7 => .int
  | 8 => .boolean
  | 9 => .int
  | 10 => .array .boolean
  | 11 => .array .int
  | 12 => .array .int
  | 13 => .array .boolean
  | 14 => .int
  | 15 => .boolean
  | 16 => .int
  | 17 => .int
  | _ => .array .int
abbrev wsX80 : List Cond := u_ws RX8 TX8 19
theorem nmX8 : ∀ a, a < 19 → ∀ b, b < 19 → a ≠ b → (TX8 a).2.1 ≠ (TX8 b).2.1 := by decide +kernel
theorem tyX8_ok : ∀ k, k < 19 → parseFieldDescriptor (TX8 k).2.2.1 = some (tyX8 k) := by decide +kernel
abbrev cX8_init : ByteArray := prog_10_method_1_code
def yX8_init : MethodName := ⟨RX8, "<init>", "()V"⟩
abbrev cX8_in : ByteArray := prog_10_method_3_code
def yX8_in : MethodName := ⟨RX8, "in", "(III)Z"⟩
abbrev cX8_isMix : ByteArray := prog_10_method_4_code
def yX8_isMix : MethodName := ⟨RX8, "isMix", "(I)Z"⟩
abbrev cX8_putAside : ByteArray := prog_10_method_5_code
def yX8_putAside : MethodName := ⟨RX8, "putAside", "()V"⟩
abbrev cX8_act : ByteArray := prog_10_method_6_code
def yX8_act : MethodName := ⟨RX8, "act", "(I)I"⟩
abbrev cX8_mixed : ByteArray := prog_10_method_7_code
def yX8_mixed : MethodName := ⟨RX8, "mixed", "(II)I"⟩
abbrev cX8_units : ByteArray := prog_10_method_8_code
def yX8_units : MethodName := ⟨RX8, "units", "(I)I"⟩
abbrev cX8_priceOf : ByteArray := prog_10_method_9_code
def yX8_priceOf : MethodName := ⟨RX8, "priceOf", "(I)I"⟩
abbrev cX8_layBland : ByteArray := prog_10_method_10_code
def yX8_layBland : MethodName := ⟨RX8, "layBland", "(I)I"⟩
abbrev cX8_lay : ByteArray := prog_10_method_11_code
def yX8_lay : MethodName := ⟨RX8, "lay", "()V"⟩
abbrev cX8_taste : ByteArray := prog_10_method_12_code
def yX8_taste : MethodName := ⟨RX8, "taste", "(I)I"⟩
abbrev cX8_strength : ByteArray := prog_10_method_13_code
def yX8_strength : MethodName := ⟨RX8, "strength", "()I"⟩
abbrev cX8_power : ByteArray := prog_10_method_14_code
def yX8_power : MethodName := ⟨RX8, "power", "(I)I"⟩
abbrev cX8_cheapest : ByteArray := prog_10_method_15_code
def yX8_cheapest : MethodName := ⟨RX8, "cheapest", "(I)I"⟩
abbrev cX8_mixIn : ByteArray := prog_10_method_16_code
def yX8_mixIn : MethodName := ⟨RX8, "mixIn", "(I)I"⟩
abbrev cX8_numberOf : ByteArray := prog_10_method_17_code
def yX8_numberOf : MethodName := ⟨RX8, "numberOf", "(I)I"⟩
abbrev cX8_find : ByteArray := prog_10_method_18_code
def yX8_find : MethodName := ⟨RX8, "find", "(I)I"⟩
abbrev cX8_dropJar : ByteArray := prog_10_method_19_code
def yX8_dropJar : MethodName := ⟨RX8, "dropJar", "(I)V"⟩
abbrev cX8_jarsLike : ByteArray := prog_10_method_20_code
def yX8_jarsLike : MethodName := ⟨RX8, "jarsLike", "(I)I"⟩
abbrev cX8_unitsInJars : ByteArray := prog_10_method_21_code
def yX8_unitsInJars : MethodName := ⟨RX8, "unitsInJars", "()I"⟩
abbrev cX8_comes : ByteArray := prog_10_method_22_code
def yX8_comes : MethodName := ⟨RX8, "comes", "(III)I"⟩
abbrev cX8_pours : ByteArray := prog_10_method_23_code
def yX8_pours : MethodName := ⟨RX8, "pours", "(II)I"⟩
abbrev cX8_buysMore : ByteArray := prog_10_method_24_code
def yX8_buysMore : MethodName := ⟨RX8, "buysMore", "(I)I"⟩
abbrev cX8_rules : ByteArray := prog_10_method_25_code
def yX8_rules : MethodName := ⟨RX8, "rules", "(I)I"⟩
abbrev cX8_drops : ByteArray := prog_10_method_26_code
def yX8_drops : MethodName := ⟨RX8, "drops", "(I)I"⟩
abbrev cX8_wants : ByteArray := prog_10_method_27_code
def yX8_wants : MethodName := ⟨RX8, "wants", "(I)I"⟩
abbrev cX8_serves : ByteArray := prog_10_method_28_code
def yX8_serves : MethodName := ⟨RX8, "serves", "()I"⟩
abbrev cX8_jar : ByteArray := prog_10_method_29_code
def yX8_jar : MethodName := ⟨RX8, "jar", "(I)I"⟩
abbrev cX8_pour : ByteArray := prog_10_method_30_code
def yX8_pour : MethodName := ⟨RX8, "pour", "(II)I"⟩
abbrev cX8_more : ByteArray := prog_10_method_31_code
def yX8_more : MethodName := ⟨RX8, "more", "(I)I"⟩
abbrev cX8_throwAway : ByteArray := prog_10_method_32_code
def yX8_throwAway : MethodName := ⟨RX8, "throwAway", "(I)I"⟩
abbrev cX8_rule : ByteArray := prog_10_method_33_code
def yX8_rule : MethodName := ⟨RX8, "rule", "(I)I"⟩
abbrev cX8_drop : ByteArray := prog_10_method_34_code
def yX8_drop : MethodName := ⟨RX8, "drop", "(I)I"⟩
abbrev cX8_price : ByteArray := prog_10_method_35_code
def yX8_price : MethodName := ⟨RX8, "price", "(II)I"⟩
abbrev cX8_want : ByteArray := prog_10_method_36_code
def yX8_want : MethodName := ⟨RX8, "want", "(I)I"⟩
abbrev cX8_serve : ByteArray := prog_10_method_37_code
def yX8_serve : MethodName := ⟨RX8, "serve", "()I"⟩
abbrev cX8_type : ByteArray := prog_10_method_38_code
def yX8_type : MethodName := ⟨RX8, "type", "(C)I"⟩
abbrev cX8_clearText : ByteArray := prog_10_method_39_code
def yX8_clearText : MethodName := ⟨RX8, "clearText", "()I"⟩
abbrev cX8_sign : ByteArray := prog_10_method_40_code
def yX8_sign : MethodName := ⟨RX8, "sign", "(II)I"⟩
abbrev cX8_isNext : ByteArray := prog_10_method_41_code
def yX8_isNext : MethodName := ⟨RX8, "isNext", "(II)Z"⟩
abbrev cX8_signs : ByteArray := prog_10_method_42_code
def yX8_signs : MethodName := ⟨RX8, "signs", "(IIII)V"⟩
abbrev cX8_mix : ByteArray := prog_10_method_43_code
def yX8_mix : MethodName := ⟨RX8, "mix", "()I"⟩
abbrev cX8_number : ByteArray := prog_10_method_44_code
def yX8_number : MethodName := ⟨RX8, "number", "()I"⟩
abbrev cX8_order : ByteArray := prog_10_method_45_code
def yX8_order : MethodName := ⟨RX8, "order", "(Z)I"⟩
abbrev cX8_go : ByteArray := prog_10_method_46_code
def yX8_go : MethodName := ⟨RX8, "go", "(Z)I"⟩
abbrev cX8_fault : ByteArray := prog_10_method_47_code
def yX8_fault : MethodName := ⟨RX8, "fault", "()I"⟩
abbrev cX8_doAll : ByteArray := prog_10_method_48_code
def yX8_doAll : MethodName := ⟨RX8, "doAll", "()I"⟩
abbrev cX8_undo : ByteArray := prog_10_method_49_code
def yX8_undo : MethodName := ⟨RX8, "undo", "()I"⟩
abbrev cX8_keep : ByteArray := prog_10_method_50_code
def yX8_keep : MethodName := ⟨RX8, "keep", "()I"⟩
abbrev cX8_restore : ByteArray := prog_10_method_51_code
def yX8_restore : MethodName := ⟨RX8, "restore", "()I"⟩
abbrev cX8_told : ByteArray := prog_10_method_52_code
def yX8_told : MethodName := ⟨RX8, "told", "(II)I"⟩
abbrev cX8_jarOf : ByteArray := prog_10_method_53_code
def yX8_jarOf : MethodName := ⟨RX8, "jarOf", "(II)I"⟩
abbrev cX8_ranked : ByteArray := prog_10_method_54_code
def yX8_ranked : MethodName := ⟨RX8, "ranked", "(I)I"⟩
abbrev cX8_ruleOf : ByteArray := prog_10_method_55_code
def yX8_ruleOf : MethodName := ⟨RX8, "ruleOf", "(I)I"⟩
abbrev cX8_mixOf : ByteArray := prog_10_method_56_code
def yX8_mixOf : MethodName := ⟨RX8, "mixOf", "(II)I"⟩
abbrev cX8_together : ByteArray := prog_10_method_57_code
def yX8_together : MethodName := ⟨RX8, "together", "(II)I"⟩
abbrev cX8_alike : ByteArray := prog_10_method_58_code
def yX8_alike : MethodName := ⟨RX8, "alike", "(IIZ)I"⟩
abbrev cX8_nextShelf : ByteArray := prog_10_method_59_code
def yX8_nextShelf : MethodName := ⟨RX8, "nextShelf", "(I)I"⟩
abbrev cX8_shelf : ByteArray := prog_10_method_60_code
def yX8_shelf : MethodName := ⟨RX8, "shelf", "(II)I"⟩
abbrev cX8_waiting : ByteArray := prog_10_method_61_code
def yX8_waiting : MethodName := ⟨RX8, "waiting", "(I)I"⟩
abbrev cX8_shelves : ByteArray := prog_10_method_62_code
def yX8_shelves : MethodName := ⟨RX8, "shelves", "()I"⟩
abbrev cX8_count : ByteArray := prog_10_method_63_code
def yX8_count : MethodName := ⟨RX8, "count", "(I)I"⟩
abbrev cX8_lost : ByteArray := prog_10_method_64_code
def yX8_lost : MethodName := ⟨RX8, "lost", "()D"⟩
abbrev cX8_laySums : ByteArray := prog_10_method_65_code
def yX8_laySums : MethodName := ⟨RX8, "laySums", "()I"⟩
abbrev cX8_size : ByteArray := prog_10_method_66_code
def yX8_size : MethodName := ⟨RX8, "size", "(I)I"⟩
abbrev cX8_fewest : ByteArray := prog_10_method_67_code
def yX8_fewest : MethodName := ⟨RX8, "fewest", "(II)I"⟩
abbrev cX8_makes : ByteArray := prog_10_method_68_code
def yX8_makes : MethodName := ⟨RX8, "makes", "()I"⟩
abbrev cX8_needless : ByteArray := prog_10_method_69_code
def yX8_needless : MethodName := ⟨RX8, "needless", "()I"⟩
abbrev cX8_ifPoured : ByteArray := prog_10_method_70_code
def yX8_ifPoured : MethodName := ⟨RX8, "ifPoured", "(II)I"⟩
def RJx145de : String := "java/io/Serializable"
def RJx9f9b0 : String := "java/lang/CharSequence"
def RJxb160c : String := "java/lang/Comparable"
def RJ6 : String := "java/lang/Integer"
abbrev cJ6_bitCount_0f7a4 : ByteArray := prog_11_method_49_code
def yJ6_bitCount_0f7a4 : MethodName := ⟨RJ6, "bitCount", "(I)I"⟩
def RJ9 : String := "java/lang/Math"
abbrev cJ9_min_7cf53 : ByteArray := prog_12_method_69_code
def yJ9_min_7cf53 : MethodName := ⟨RJ9, "min", "(II)I"⟩
def RJ0 : String := "java/lang/String"
abbrev cJ0_length_8abf5 : ByteArray := prog_13_method_54_code
def yJ0_length_8abf5 : MethodName := ⟨RJ0, "length", "()I"⟩
abbrev cJ0_charAt_5068e : ByteArray := prog_13_method_56_code
def yJ0_charAt_5068e : MethodName := ⟨RJ0, "charAt", "(I)C"⟩
abbrev cJ0_coder_7d493 : ByteArray := prog_13_method_152_code
def yJ0_coder_7d493 : MethodName := ⟨RJ0, "coder", "()B"⟩
abbrev cJ0_isLatin1_aae02 : ByteArray := prog_13_method_154_code
def yJ0_isLatin1_aae02 : MethodName := ⟨RJ0, "isLatin1", "()Z"⟩
abbrev cJ0_checkIndex_df160 : ByteArray := prog_13_method_155_code
def yJ0_checkIndex_df160 : MethodName := ⟨RJ0, "checkIndex", "(II)V"⟩
def RJ1 : String := "java/lang/StringLatin1"
abbrev cJ1_charAt_3b067 : ByteArray := prog_14_method_2_code
def yJ1_charAt_3b067 : MethodName := ⟨RJ1, "charAt", "([BI)C"⟩
def RJ2 : String := "java/lang/StringUTF16"
abbrev cJ2_getChar_3b067 : ByteArray := prog_15_method_5_code
def yJ2_getChar_3b067 : MethodName := ⟨RJ2, "getChar", "([BI)C"⟩
abbrev cJ2_length_9d52b : ByteArray := prog_15_method_6_code
def yJ2_length_9d52b : MethodName := ⟨RJ2, "length", "([B)I"⟩
abbrev cJ2_charAt_3b067 : ByteArray := prog_15_method_83_code
def yJ2_charAt_3b067 : MethodName := ⟨RJ2, "charAt", "([BI)C"⟩
abbrev cJ2_checkIndex_2214a : ByteArray := prog_15_method_91_code
def yJ2_checkIndex_2214a : MethodName := ⟨RJ2, "checkIndex", "(I[B)V"⟩
def RJ10 : String := "java/lang/System"
def RJxfd54e : String := "java/lang/constant/Constable"
def RJx3cf43 : String := "java/lang/constant/ConstantDesc"
def RJ7 : String := "java/util/Arrays"
abbrev cJ7_fill_53178 : ByteArray := prog_17_method_103_code
def yJ7_fill_53178 : MethodName := ⟨RJ7, "fill", "([II)V"⟩
def RJ3 : String := "jdk/internal/util/Preconditions"
abbrev cJ3_checkIndex_8e157 : ByteArray := prog_18_method_11_code
def yJ3_checkIndex_8e157 : MethodName := ⟨RJ3, "checkIndex", "(IILjava/util/function/BiFunction;)I"⟩
def RL : String := "SpiceThreesLaw"
abbrev cL_law : ByteArray := code
def yL_law : MethodName := ⟨RL, "law", "([I)Z"⟩
abbrev vwCl : List vw_C := [(RX0, TX0, 4), (RX1, TX1, 4), (RX2, TX2, 3), (RX3, TX3, 1), (RX4, TX4, 10), (RX5, TX5, 10), (RX6, TX6, 7), (RX7, TX7, 9), (RX8, TX8, 19)]
theorem inX0 : ∀ w ∈ wsX00, w ∈ lw_tbl := by decide +kernel
theorem inX1 : ∀ w ∈ wsX10, w ∈ lw_tbl := by decide +kernel
theorem inX2 : ∀ w ∈ wsX20, w ∈ lw_tbl := by decide +kernel
theorem inX3 : ∀ w ∈ wsX30, w ∈ lw_tbl := by decide +kernel
theorem inX4 : ∀ w ∈ wsX40, w ∈ lw_tbl := by decide +kernel
theorem inX5 : ∀ w ∈ wsX50, w ∈ lw_tbl := by decide +kernel
theorem inX6 : ∀ w ∈ wsX60, w ∈ lw_tbl := by decide +kernel
theorem inX7 : ∀ w ∈ wsX70, w ∈ lw_tbl := by decide +kernel
theorem inX8 : ∀ w ∈ wsX80, w ∈ lw_tbl := by decide +kernel
end
section
theorem dX0_init_0 : decode cX0_init 0 = .ok (.aload_n 0, 1) := by decide +kernel
theorem dX0_init_1 : decode cX0_init 1 = .ok (.invokespecial 3, 3) := by decide +kernel
theorem dX0_init_4 : decode cX0_init 4 = .ok (.aload_n 0, 1) := by decide +kernel
theorem dX0_init_5 : decode cX0_init 5 = .ok (.bipush 8, 2) := by decide +kernel
theorem dX0_init_7 : decode cX0_init 7 = .ok (.newarray .int, 2) := by decide +kernel
theorem dX0_init_9 : decode cX0_init 9 = .ok (.putfield 9, 3) := by decide +kernel
theorem dX0_init_12 : decode cX0_init 12 = .ok (.aload_n 0, 1) := by decide +kernel
theorem dX0_init_13 : decode cX0_init 13 = .ok (.aload_n 1, 1) := by decide +kernel
theorem dX0_init_14 : decode cX0_init 14 = .ok (.putfield 15, 3) := by decide +kernel
theorem dX0_init_17 : decode cX0_init 17 = .ok (.aload_n 0, 1) := by decide +kernel
theorem dX0_init_18 : decode cX0_init 18 = .ok (.aload_n 2, 1) := by decide +kernel
theorem dX0_init_19 : decode cX0_init 19 = .ok (.putfield 19, 3) := by decide +kernel
theorem dX0_init_22 : decode cX0_init 22 = .ok (.aload_n 0, 1) := by decide +kernel
theorem dX0_init_23 : decode cX0_init 23 = .ok (.aload_n 3, 1) := by decide +kernel
theorem dX0_init_24 : decode cX0_init 24 = .ok (.putfield 23, 3) := by decide +kernel
theorem dX0_init_27 : decode cX0_init 27 = .ok (.return_, 1) := by decide +kernel
theorem dX0_bring_0 : decode cX0_bring 0 = .ok (.iload_n 1, 1) := by decide +kernel
theorem dX0_bring_1 : decode cX0_bring 1 = .ok (.invokestatic 27, 3) := by decide +kernel
theorem dX0_bring_4 : decode cX0_bring 4 = .ok (.ifCond .ne 6, 3) := by decide +kernel
theorem dX0_bring_7 : decode cX0_bring 7 = .ok (.bipush (-2), 2) := by decide +kernel
theorem dX0_bring_9 : decode cX0_bring 9 = .ok (.ireturn, 1) := by decide +kernel
theorem dX0_bring_10 : decode cX0_bring 10 = .ok (.iconst 0, 1) := by decide +kernel
theorem dX0_bring_11 : decode cX0_bring 11 = .ok (.istore_n 2, 1) := by decide +kernel
theorem dX0_bring_12 : decode cX0_bring 12 = .ok (.iload_n 2, 1) := by decide +kernel
theorem dX0_bring_13 : decode cX0_bring 13 = .ok (.bipush 8, 2) := by decide +kernel
theorem dX0_bring_15 : decode cX0_bring 15 = .ok (.if_icmp .ge 24, 3) := by decide +kernel
theorem dX0_bring_18 : decode cX0_bring 18 = .ok (.aload_n 0, 1) := by decide +kernel
theorem dX0_bring_19 : decode cX0_bring 19 = .ok (.getfield 9, 3) := by decide +kernel
theorem dX0_bring_22 : decode cX0_bring 22 = .ok (.iload_n 2, 1) := by decide +kernel
theorem dX0_bring_23 : decode cX0_bring 23 = .ok (.iload_n 1, 1) := by decide +kernel
theorem dX0_bring_24 : decode cX0_bring 24 = .ok (.getstatic 31, 3) := by decide +kernel
theorem dX0_bring_27 : decode cX0_bring 27 = .ok (.iload_n 2, 1) := by decide +kernel
theorem dX0_bring_28 : decode cX0_bring 28 = .ok (.iaload, 1) := by decide +kernel
theorem dX0_bring_29 : decode cX0_bring 29 = .ok (.idiv, 1) := by decide +kernel
theorem dX0_bring_30 : decode cX0_bring 30 = .ok (.iconst 3, 1) := by decide +kernel
theorem dX0_bring_31 : decode cX0_bring 31 = .ok (.irem, 1) := by decide +kernel
theorem dX0_bring_32 : decode cX0_bring 32 = .ok (.iastore, 1) := by decide +kernel
theorem dX0_bring_33 : decode cX0_bring 33 = .ok (.iinc 2 1, 3) := by decide +kernel
theorem dX0_bring_36 : decode cX0_bring 36 = .ok (.goto (-24), 3) := by decide +kernel
theorem dX0_bring_39 : decode cX0_bring 39 = .ok (.aload_n 0, 1) := by decide +kernel
theorem dX0_bring_40 : decode cX0_bring 40 = .ok (.aload_n 0, 1) := by decide +kernel
theorem dX0_bring_41 : decode cX0_bring 41 = .ok (.getfield 9, 3) := by decide +kernel
theorem dX0_bring_44 : decode cX0_bring 44 = .ok (.invokevirtual 34, 3) := by decide +kernel
theorem dX0_bring_47 : decode cX0_bring 47 = .ok (.ireturn, 1) := by decide +kernel
theorem dX0_bringUnits_0 : decode cX0_bringUnits 0 = .ok (.aload_n 0, 1) := by decide +kernel
theorem dX0_bringUnits_1 : decode cX0_bringUnits 1 = .ok (.getfield 15, 3) := by decide +kernel
theorem dX0_bringUnits_4 : decode cX0_bringUnits 4 = .ok (.invokevirtual 38, 3) := by decide +kernel
theorem dX0_bringUnits_7 : decode cX0_bringUnits 7 = .ok (.ifCond .ne 6, 3) := by decide +kernel
theorem dX0_bringUnits_10 : decode cX0_bringUnits 10 = .ok (.bipush (-3), 2) := by decide +kernel
theorem dX0_bringUnits_12 : decode cX0_bringUnits 12 = .ok (.ireturn, 1) := by decide +kernel
theorem dX0_bringUnits_13 : decode cX0_bringUnits 13 = .ok (.iconst 0, 1) := by decide +kernel
theorem dX0_bringUnits_14 : decode cX0_bringUnits 14 = .ok (.istore_n 2, 1) := by decide +kernel
theorem dX0_bringUnits_15 : decode cX0_bringUnits 15 = .ok (.iconst 0, 1) := by decide +kernel
theorem dX0_bringUnits_16 : decode cX0_bringUnits 16 = .ok (.istore_n 3, 1) := by decide +kernel
theorem dX0_bringUnits_17 : decode cX0_bringUnits 17 = .ok (.iconst 0, 1) := by decide +kernel
theorem dX0_bringUnits_18 : decode cX0_bringUnits 18 = .ok (.istore 4, 2) := by decide +kernel
theorem dX0_bringUnits_20 : decode cX0_bringUnits 20 = .ok (.iconst 0, 1) := by decide +kernel
theorem dX0_bringUnits_21 : decode cX0_bringUnits 21 = .ok (.istore 5, 2) := by decide +kernel
theorem dX0_bringUnits_23 : decode cX0_bringUnits 23 = .ok (.iload 5, 2) := by decide +kernel
theorem dX0_bringUnits_25 : decode cX0_bringUnits 25 = .ok (.bipush 8, 2) := by decide +kernel
theorem dX0_bringUnits_27 : decode cX0_bringUnits 27 = .ok (.if_icmp .ge 52, 3) := by decide +kernel
theorem dX0_bringUnits_30 : decode cX0_bringUnits 30 = .ok (.iload_n 2, 1) := by decide +kernel
theorem dX0_bringUnits_31 : decode cX0_bringUnits 31 = .ok (.aload_n 1, 1) := by decide +kernel
theorem dX0_bringUnits_32 : decode cX0_bringUnits 32 = .ok (.iload 5, 2) := by decide +kernel
theorem dX0_bringUnits_34 : decode cX0_bringUnits 34 = .ok (.iaload, 1) := by decide +kernel
theorem dX0_bringUnits_35 : decode cX0_bringUnits 35 = .ok (.iconst 3, 1) := by decide +kernel
theorem dX0_bringUnits_36 : decode cX0_bringUnits 36 = .ok (.irem, 1) := by decide +kernel
theorem dX0_bringUnits_37 : decode cX0_bringUnits 37 = .ok (.getstatic 31, 3) := by decide +kernel
theorem dX0_bringUnits_40 : decode cX0_bringUnits 40 = .ok (.iload 5, 2) := by decide +kernel
theorem dX0_bringUnits_42 : decode cX0_bringUnits 42 = .ok (.iaload, 1) := by decide +kernel
theorem dX0_bringUnits_43 : decode cX0_bringUnits 43 = .ok (.imul, 1) := by decide +kernel
theorem dX0_bringUnits_44 : decode cX0_bringUnits 44 = .ok (.iadd, 1) := by decide +kernel
theorem dX0_bringUnits_45 : decode cX0_bringUnits 45 = .ok (.istore_n 2, 1) := by decide +kernel
theorem dX0_bringUnits_46 : decode cX0_bringUnits 46 = .ok (.iload_n 3, 1) := by decide +kernel
theorem dX0_bringUnits_47 : decode cX0_bringUnits 47 = .ok (.aload_n 1, 1) := by decide +kernel
theorem dX0_bringUnits_48 : decode cX0_bringUnits 48 = .ok (.iload 5, 2) := by decide +kernel
theorem dX0_bringUnits_50 : decode cX0_bringUnits 50 = .ok (.iaload, 1) := by decide +kernel
theorem dX0_bringUnits_51 : decode cX0_bringUnits 51 = .ok (.iadd, 1) := by decide +kernel
theorem dX0_bringUnits_52 : decode cX0_bringUnits 52 = .ok (.istore_n 3, 1) := by decide +kernel
theorem dX0_bringUnits_53 : decode cX0_bringUnits 53 = .ok (.iload 4, 2) := by decide +kernel
theorem dX0_bringUnits_55 : decode cX0_bringUnits 55 = .ok (.aload_n 1, 1) := by decide +kernel
theorem dX0_bringUnits_56 : decode cX0_bringUnits 56 = .ok (.iload 5, 2) := by decide +kernel
theorem dX0_bringUnits_58 : decode cX0_bringUnits 58 = .ok (.iaload, 1) := by decide +kernel
theorem dX0_bringUnits_59 : decode cX0_bringUnits 59 = .ok (.aload_n 0, 1) := by decide +kernel
theorem dX0_bringUnits_60 : decode cX0_bringUnits 60 = .ok (.getfield 15, 3) := by decide +kernel
theorem dX0_bringUnits_63 : decode cX0_bringUnits 63 = .ok (.getfield 44, 3) := by decide +kernel
theorem dX0_bringUnits_66 : decode cX0_bringUnits 66 = .ok (.iload 5, 2) := by decide +kernel
theorem dX0_bringUnits_68 : decode cX0_bringUnits 68 = .ok (.iaload, 1) := by decide +kernel
theorem dX0_bringUnits_69 : decode cX0_bringUnits 69 = .ok (.imul, 1) := by decide +kernel
theorem dX0_bringUnits_70 : decode cX0_bringUnits 70 = .ok (.iadd, 1) := by decide +kernel
theorem dX0_bringUnits_71 : decode cX0_bringUnits 71 = .ok (.istore 4, 2) := by decide +kernel
theorem dX0_bringUnits_73 : decode cX0_bringUnits 73 = .ok (.iinc 5 1, 3) := by decide +kernel
theorem dX0_bringUnits_76 : decode cX0_bringUnits 76 = .ok (.goto (-53), 3) := by decide +kernel
theorem dX0_bringUnits_79 : decode cX0_bringUnits 79 = .ok (.aload_n 0, 1) := by decide +kernel
theorem dX0_bringUnits_80 : decode cX0_bringUnits 80 = .ok (.getfield 15, 3) := by decide +kernel
theorem dX0_bringUnits_83 : decode cX0_bringUnits 83 = .ok (.getfield 47, 3) := by decide +kernel
theorem dX0_bringUnits_86 : decode cX0_bringUnits 86 = .ok (.iconst 0, 1) := by decide +kernel
theorem dX0_bringUnits_87 : decode cX0_bringUnits 87 = .ok (.dup2, 1) := by decide +kernel
theorem dX0_bringUnits_88 : decode cX0_bringUnits 88 = .ok (.iaload, 1) := by decide +kernel
theorem dX0_bringUnits_89 : decode cX0_bringUnits 89 = .ok (.iload_n 3, 1) := by decide +kernel
theorem dX0_bringUnits_90 : decode cX0_bringUnits 90 = .ok (.iadd, 1) := by decide +kernel
theorem dX0_bringUnits_91 : decode cX0_bringUnits 91 = .ok (.iastore, 1) := by decide +kernel
theorem dX0_bringUnits_92 : decode cX0_bringUnits 92 = .ok (.aload_n 0, 1) := by decide +kernel
theorem dX0_bringUnits_93 : decode cX0_bringUnits 93 = .ok (.getfield 15, 3) := by decide +kernel
theorem dX0_bringUnits_96 : decode cX0_bringUnits 96 = .ok (.getfield 47, 3) := by decide +kernel
theorem dX0_bringUnits_99 : decode cX0_bringUnits 99 = .ok (.iconst 4, 1) := by decide +kernel
theorem dX0_bringUnits_100 : decode cX0_bringUnits 100 = .ok (.dup2, 1) := by decide +kernel
theorem dX0_bringUnits_101 : decode cX0_bringUnits 101 = .ok (.iaload, 1) := by decide +kernel
theorem dX0_bringUnits_102 : decode cX0_bringUnits 102 = .ok (.iload 4, 2) := by decide +kernel
theorem dX0_bringUnits_104 : decode cX0_bringUnits 104 = .ok (.iadd, 1) := by decide +kernel
theorem dX0_bringUnits_105 : decode cX0_bringUnits 105 = .ok (.iastore, 1) := by decide +kernel
theorem dX0_bringUnits_106 : decode cX0_bringUnits 106 = .ok (.aload_n 0, 1) := by decide +kernel
theorem dX0_bringUnits_107 : decode cX0_bringUnits 107 = .ok (.getfield 15, 3) := by decide +kernel
theorem dX0_bringUnits_110 : decode cX0_bringUnits 110 = .ok (.getfield 47, 3) := by decide +kernel
theorem dX0_bringUnits_113 : decode cX0_bringUnits 113 = .ok (.iconst 1, 1) := by decide +kernel
theorem dX0_bringUnits_114 : decode cX0_bringUnits 114 = .ok (.dup2, 1) := by decide +kernel
theorem dX0_bringUnits_115 : decode cX0_bringUnits 115 = .ok (.iaload, 1) := by decide +kernel
theorem dX0_bringUnits_116 : decode cX0_bringUnits 116 = .ok (.iload_n 3, 1) := by decide +kernel
theorem dX0_bringUnits_117 : decode cX0_bringUnits 117 = .ok (.iload_n 2, 1) := by decide +kernel
theorem dX0_bringUnits_118 : decode cX0_bringUnits 118 = .ok (.invokestatic 50, 3) := by decide +kernel
theorem dX0_bringUnits_121 : decode cX0_bringUnits 121 = .ok (.isub, 1) := by decide +kernel
theorem dX0_bringUnits_122 : decode cX0_bringUnits 122 = .ok (.iadd, 1) := by decide +kernel
theorem dX0_bringUnits_123 : decode cX0_bringUnits 123 = .ok (.iastore, 1) := by decide +kernel
theorem dX0_bringUnits_124 : decode cX0_bringUnits 124 = .ok (.aload_n 0, 1) := by decide +kernel
theorem dX0_bringUnits_125 : decode cX0_bringUnits 125 = .ok (.getfield 15, 3) := by decide +kernel
theorem dX0_bringUnits_128 : decode cX0_bringUnits 128 = .ok (.iload_n 2, 1) := by decide +kernel
theorem dX0_bringUnits_129 : decode cX0_bringUnits 129 = .ok (.invokevirtual 54, 3) := by decide +kernel
theorem dX0_bringUnits_132 : decode cX0_bringUnits 132 = .ok (.ireturn, 1) := by decide +kernel
theorem dX0_pourInto_0 : decode cX0_pourInto 0 = .ok (.aload_n 0, 1) := by decide +kernel
theorem dX0_pourInto_1 : decode cX0_pourInto 1 = .ok (.getfield 15, 3) := by decide +kernel
theorem dX0_pourInto_4 : decode cX0_pourInto 4 = .ok (.iload_n 1, 1) := by decide +kernel
theorem dX0_pourInto_5 : decode cX0_pourInto 5 = .ok (.invokevirtual 57, 3) := by decide +kernel
theorem dX0_pourInto_8 : decode cX0_pourInto 8 = .ok (.istore_n 3, 1) := by decide +kernel
theorem dX0_pourInto_9 : decode cX0_pourInto 9 = .ok (.aload_n 0, 1) := by decide +kernel
theorem dX0_pourInto_10 : decode cX0_pourInto 10 = .ok (.getfield 15, 3) := by decide +kernel
theorem dX0_pourInto_13 : decode cX0_pourInto 13 = .ok (.iload_n 2, 1) := by decide +kernel
theorem dX0_pourInto_14 : decode cX0_pourInto 14 = .ok (.invokevirtual 57, 3) := by decide +kernel
theorem dX0_pourInto_17 : decode cX0_pourInto 17 = .ok (.istore 4, 2) := by decide +kernel
theorem dX0_pourInto_19 : decode cX0_pourInto 19 = .ok (.iload_n 3, 1) := by decide +kernel
theorem dX0_pourInto_20 : decode cX0_pourInto 20 = .ok (.ifCond .lt 8, 3) := by decide +kernel
theorem dX0_pourInto_23 : decode cX0_pourInto 23 = .ok (.iload 4, 2) := by decide +kernel
theorem dX0_pourInto_25 : decode cX0_pourInto 25 = .ok (.ifCond .ge 5, 3) := by decide +kernel
theorem dX0_pourInto_28 : decode cX0_pourInto 28 = .ok (.iconst (-1), 1) := by decide +kernel
theorem dX0_pourInto_29 : decode cX0_pourInto 29 = .ok (.ireturn, 1) := by decide +kernel
theorem dX0_pourInto_30 : decode cX0_pourInto 30 = .ok (.iload_n 3, 1) := by decide +kernel
theorem dX0_pourInto_31 : decode cX0_pourInto 31 = .ok (.iload 4, 2) := by decide +kernel
theorem dX0_pourInto_33 : decode cX0_pourInto 33 = .ok (.if_icmp .ne 6, 3) := by decide +kernel
theorem dX0_pourInto_36 : decode cX0_pourInto 36 = .ok (.bipush (-2), 2) := by decide +kernel
theorem dX0_pourInto_38 : decode cX0_pourInto 38 = .ok (.ireturn, 1) := by decide +kernel
theorem dX0_pourInto_39 : decode cX0_pourInto 39 = .ok (.aload_n 0, 1) := by decide +kernel
theorem dX0_pourInto_40 : decode cX0_pourInto 40 = .ok (.getfield 15, 3) := by decide +kernel
theorem dX0_pourInto_43 : decode cX0_pourInto 43 = .ok (.getfield 60, 3) := by decide +kernel
theorem dX0_pourInto_46 : decode cX0_pourInto 46 = .ok (.iload_n 3, 1) := by decide +kernel
theorem dX0_pourInto_47 : decode cX0_pourInto 47 = .ok (.iaload, 1) := by decide +kernel
theorem dX0_pourInto_48 : decode cX0_pourInto 48 = .ok (.istore 5, 2) := by decide +kernel
theorem dX0_pourInto_50 : decode cX0_pourInto 50 = .ok (.iload 5, 2) := by decide +kernel
theorem dX0_pourInto_52 : decode cX0_pourInto 52 = .ok (.ifCond .ne 6, 3) := by decide +kernel
theorem dX0_pourInto_55 : decode cX0_pourInto 55 = .ok (.bipush (-5), 2) := by decide +kernel
theorem dX0_pourInto_57 : decode cX0_pourInto 57 = .ok (.ireturn, 1) := by decide +kernel
theorem dX0_pourInto_58 : decode cX0_pourInto 58 = .ok (.aload_n 0, 1) := by decide +kernel
theorem dX0_pourInto_59 : decode cX0_pourInto 59 = .ok (.getfield 15, 3) := by decide +kernel
theorem dX0_pourInto_62 : decode cX0_pourInto 62 = .ok (.getfield 60, 3) := by decide +kernel
theorem dX0_pourInto_65 : decode cX0_pourInto 65 = .ok (.iload_n 3, 1) := by decide +kernel
theorem dX0_pourInto_66 : decode cX0_pourInto 66 = .ok (.iconst 0, 1) := by decide +kernel
theorem dX0_pourInto_67 : decode cX0_pourInto 67 = .ok (.iastore, 1) := by decide +kernel
theorem dX0_pourInto_68 : decode cX0_pourInto 68 = .ok (.aload_n 0, 1) := by decide +kernel
theorem dX0_pourInto_69 : decode cX0_pourInto 69 = .ok (.iload 4, 2) := by decide +kernel
theorem dX0_pourInto_71 : decode cX0_pourInto 71 = .ok (.iload 5, 2) := by decide +kernel
theorem dX0_pourInto_73 : decode cX0_pourInto 73 = .ok (.invokevirtual 62, 3) := by decide +kernel
theorem dX0_pourInto_76 : decode cX0_pourInto 76 = .ok (.ireturn, 1) := by decide +kernel
theorem dX0_buyAgain_0 : decode cX0_buyAgain 0 = .ok (.aload_n 0, 1) := by decide +kernel
theorem dX0_buyAgain_1 : decode cX0_buyAgain 1 = .ok (.getfield 15, 3) := by decide +kernel
theorem dX0_buyAgain_4 : decode cX0_buyAgain 4 = .ok (.iload_n 1, 1) := by decide +kernel
theorem dX0_buyAgain_5 : decode cX0_buyAgain 5 = .ok (.invokevirtual 57, 3) := by decide +kernel
theorem dX0_buyAgain_8 : decode cX0_buyAgain 8 = .ok (.istore_n 2, 1) := by decide +kernel
theorem dX0_buyAgain_9 : decode cX0_buyAgain 9 = .ok (.iload_n 2, 1) := by decide +kernel
theorem dX0_buyAgain_10 : decode cX0_buyAgain 10 = .ok (.ifCond .ge 5, 3) := by decide +kernel
theorem dX0_buyAgain_13 : decode cX0_buyAgain 13 = .ok (.iconst (-1), 1) := by decide +kernel
theorem dX0_buyAgain_14 : decode cX0_buyAgain 14 = .ok (.ireturn, 1) := by decide +kernel
theorem dX0_buyAgain_15 : decode cX0_buyAgain 15 = .ok (.aload_n 0, 1) := by decide +kernel
theorem dX0_buyAgain_16 : decode cX0_buyAgain 16 = .ok (.getfield 15, 3) := by decide +kernel
theorem dX0_buyAgain_19 : decode cX0_buyAgain 19 = .ok (.getfield 60, 3) := by decide +kernel
theorem dX0_buyAgain_22 : decode cX0_buyAgain 22 = .ok (.iload_n 2, 1) := by decide +kernel
theorem dX0_buyAgain_23 : decode cX0_buyAgain 23 = .ok (.iaload, 1) := by decide +kernel
theorem dX0_buyAgain_24 : decode cX0_buyAgain 24 = .ok (.istore_n 3, 1) := by decide +kernel
theorem dX0_buyAgain_25 : decode cX0_buyAgain 25 = .ok (.iload_n 3, 1) := by decide +kernel
theorem dX0_buyAgain_26 : decode cX0_buyAgain 26 = .ok (.ifCond .ne 6, 3) := by decide +kernel
theorem dX0_buyAgain_29 : decode cX0_buyAgain 29 = .ok (.bipush (-5), 2) := by decide +kernel
theorem dX0_buyAgain_31 : decode cX0_buyAgain 31 = .ok (.ireturn, 1) := by decide +kernel
theorem dX0_buyAgain_32 : decode cX0_buyAgain 32 = .ok (.aload_n 0, 1) := by decide +kernel
theorem dX0_buyAgain_33 : decode cX0_buyAgain 33 = .ok (.getfield 15, 3) := by decide +kernel
theorem dX0_buyAgain_36 : decode cX0_buyAgain 36 = .ok (.getfield 47, 3) := by decide +kernel
theorem dX0_buyAgain_39 : decode cX0_buyAgain 39 = .ok (.iconst 0, 1) := by decide +kernel
theorem dX0_buyAgain_40 : decode cX0_buyAgain 40 = .ok (.dup2, 1) := by decide +kernel
theorem dX0_buyAgain_41 : decode cX0_buyAgain 41 = .ok (.iaload, 1) := by decide +kernel
theorem dX0_buyAgain_42 : decode cX0_buyAgain 42 = .ok (.iload_n 3, 1) := by decide +kernel
theorem dX0_buyAgain_43 : decode cX0_buyAgain 43 = .ok (.invokestatic 50, 3) := by decide +kernel
theorem dX0_buyAgain_46 : decode cX0_buyAgain 46 = .ok (.iadd, 1) := by decide +kernel
theorem dX0_buyAgain_47 : decode cX0_buyAgain 47 = .ok (.iastore, 1) := by decide +kernel
theorem dX0_buyAgain_48 : decode cX0_buyAgain 48 = .ok (.aload_n 0, 1) := by decide +kernel
theorem dX0_buyAgain_49 : decode cX0_buyAgain 49 = .ok (.getfield 15, 3) := by decide +kernel
theorem dX0_buyAgain_52 : decode cX0_buyAgain 52 = .ok (.getfield 47, 3) := by decide +kernel
theorem dX0_buyAgain_55 : decode cX0_buyAgain 55 = .ok (.iconst 4, 1) := by decide +kernel
theorem dX0_buyAgain_56 : decode cX0_buyAgain 56 = .ok (.dup2, 1) := by decide +kernel
theorem dX0_buyAgain_57 : decode cX0_buyAgain 57 = .ok (.iaload, 1) := by decide +kernel
theorem dX0_buyAgain_58 : decode cX0_buyAgain 58 = .ok (.iload_n 3, 1) := by decide +kernel
theorem dX0_buyAgain_59 : decode cX0_buyAgain 59 = .ok (.aload_n 0, 1) := by decide +kernel
theorem dX0_buyAgain_60 : decode cX0_buyAgain 60 = .ok (.getfield 15, 3) := by decide +kernel
theorem dX0_buyAgain_63 : decode cX0_buyAgain 63 = .ok (.getfield 44, 3) := by decide +kernel
theorem dX0_buyAgain_66 : decode cX0_buyAgain 66 = .ok (.invokestatic 66, 3) := by decide +kernel
theorem dX0_buyAgain_69 : decode cX0_buyAgain 69 = .ok (.iadd, 1) := by decide +kernel
theorem dX0_buyAgain_70 : decode cX0_buyAgain 70 = .ok (.iastore, 1) := by decide +kernel
theorem dX0_buyAgain_71 : decode cX0_buyAgain 71 = .ok (.aload_n 0, 1) := by decide +kernel
theorem dX0_buyAgain_72 : decode cX0_buyAgain 72 = .ok (.iload_n 2, 1) := by decide +kernel
theorem dX0_buyAgain_73 : decode cX0_buyAgain 73 = .ok (.iload_n 3, 1) := by decide +kernel
theorem dX0_buyAgain_74 : decode cX0_buyAgain 74 = .ok (.invokevirtual 62, 3) := by decide +kernel
theorem dX0_buyAgain_77 : decode cX0_buyAgain 77 = .ok (.pop, 1) := by decide +kernel
theorem dX0_buyAgain_78 : decode cX0_buyAgain 78 = .ok (.aload_n 0, 1) := by decide +kernel
theorem dX0_buyAgain_79 : decode cX0_buyAgain 79 = .ok (.getfield 15, 3) := by decide +kernel
theorem dX0_buyAgain_82 : decode cX0_buyAgain 82 = .ok (.getfield 60, 3) := by decide +kernel
theorem dX0_buyAgain_85 : decode cX0_buyAgain 85 = .ok (.iload_n 2, 1) := by decide +kernel
theorem dX0_buyAgain_86 : decode cX0_buyAgain 86 = .ok (.iaload, 1) := by decide +kernel
theorem dX0_buyAgain_87 : decode cX0_buyAgain 87 = .ok (.ireturn, 1) := by decide +kernel
theorem dX0_mixInto_0 : decode cX0_mixInto 0 = .ok (.aload_n 0, 1) := by decide +kernel
theorem dX0_mixInto_1 : decode cX0_mixInto 1 = .ok (.getfield 15, 3) := by decide +kernel
theorem dX0_mixInto_4 : decode cX0_mixInto 4 = .ok (.getfield 60, 3) := by decide +kernel
theorem dX0_mixInto_7 : decode cX0_mixInto 7 = .ok (.iload_n 1, 1) := by decide +kernel
theorem dX0_mixInto_8 : decode cX0_mixInto 8 = .ok (.iaload, 1) := by decide +kernel
theorem dX0_mixInto_9 : decode cX0_mixInto 9 = .ok (.istore_n 3, 1) := by decide +kernel
theorem dX0_mixInto_10 : decode cX0_mixInto 10 = .ok (.aload_n 0, 1) := by decide +kernel
theorem dX0_mixInto_11 : decode cX0_mixInto 11 = .ok (.getfield 19, 3) := by decide +kernel
theorem dX0_mixInto_14 : decode cX0_mixInto 14 = .ok (.iload_n 3, 1) := by decide +kernel
theorem dX0_mixInto_15 : decode cX0_mixInto 15 = .ok (.iload_n 2, 1) := by decide +kernel
theorem dX0_mixInto_16 : decode cX0_mixInto 16 = .ok (.invokevirtual 70, 3) := by decide +kernel
theorem dX0_mixInto_19 : decode cX0_mixInto 19 = .ok (.istore 4, 2) := by decide +kernel
theorem dX0_mixInto_21 : decode cX0_mixInto 21 = .ok (.iload_n 3, 1) := by decide +kernel
theorem dX0_mixInto_22 : decode cX0_mixInto 22 = .ok (.invokestatic 50, 3) := by decide +kernel
theorem dX0_mixInto_25 : decode cX0_mixInto 25 = .ok (.iload_n 2, 1) := by decide +kernel
theorem dX0_mixInto_26 : decode cX0_mixInto 26 = .ok (.invokestatic 50, 3) := by decide +kernel
theorem dX0_mixInto_29 : decode cX0_mixInto 29 = .ok (.iadd, 1) := by decide +kernel
theorem dX0_mixInto_30 : decode cX0_mixInto 30 = .ok (.iload 4, 2) := by decide +kernel
theorem dX0_mixInto_32 : decode cX0_mixInto 32 = .ok (.invokestatic 50, 3) := by decide +kernel
theorem dX0_mixInto_35 : decode cX0_mixInto 35 = .ok (.isub, 1) := by decide +kernel
theorem dX0_mixInto_36 : decode cX0_mixInto 36 = .ok (.istore 5, 2) := by decide +kernel
theorem dX0_mixInto_38 : decode cX0_mixInto 38 = .ok (.aload_n 0, 1) := by decide +kernel
theorem dX0_mixInto_39 : decode cX0_mixInto 39 = .ok (.getfield 15, 3) := by decide +kernel
theorem dX0_mixInto_42 : decode cX0_mixInto 42 = .ok (.getfield 60, 3) := by decide +kernel
theorem dX0_mixInto_45 : decode cX0_mixInto 45 = .ok (.iload_n 1, 1) := by decide +kernel
theorem dX0_mixInto_46 : decode cX0_mixInto 46 = .ok (.iload 4, 2) := by decide +kernel
theorem dX0_mixInto_48 : decode cX0_mixInto 48 = .ok (.iastore, 1) := by decide +kernel
theorem dX0_mixInto_49 : decode cX0_mixInto 49 = .ok (.aload_n 0, 1) := by decide +kernel
theorem dX0_mixInto_50 : decode cX0_mixInto 50 = .ok (.getfield 15, 3) := by decide +kernel
theorem dX0_mixInto_53 : decode cX0_mixInto 53 = .ok (.getfield 47, 3) := by decide +kernel
theorem dX0_mixInto_56 : decode cX0_mixInto 56 = .ok (.iconst 1, 1) := by decide +kernel
theorem dX0_mixInto_57 : decode cX0_mixInto 57 = .ok (.dup2, 1) := by decide +kernel
theorem dX0_mixInto_58 : decode cX0_mixInto 58 = .ok (.iaload, 1) := by decide +kernel
theorem dX0_mixInto_59 : decode cX0_mixInto 59 = .ok (.iload 5, 2) := by decide +kernel
theorem dX0_mixInto_61 : decode cX0_mixInto 61 = .ok (.iadd, 1) := by decide +kernel
theorem dX0_mixInto_62 : decode cX0_mixInto 62 = .ok (.iastore, 1) := by decide +kernel
theorem dX0_mixInto_63 : decode cX0_mixInto 63 = .ok (.iload 5, 2) := by decide +kernel
theorem dX0_mixInto_65 : decode cX0_mixInto 65 = .ok (.ireturn, 1) := by decide +kernel
theorem dX0_throwOut_0 : decode cX0_throwOut 0 = .ok (.aload_n 0, 1) := by decide +kernel
theorem dX0_throwOut_1 : decode cX0_throwOut 1 = .ok (.getfield 15, 3) := by decide +kernel
theorem dX0_throwOut_4 : decode cX0_throwOut 4 = .ok (.iload_n 1, 1) := by decide +kernel
theorem dX0_throwOut_5 : decode cX0_throwOut 5 = .ok (.invokevirtual 57, 3) := by decide +kernel
theorem dX0_throwOut_8 : decode cX0_throwOut 8 = .ok (.istore_n 2, 1) := by decide +kernel
theorem dX0_throwOut_9 : decode cX0_throwOut 9 = .ok (.iload_n 2, 1) := by decide +kernel
theorem dX0_throwOut_10 : decode cX0_throwOut 10 = .ok (.ifCond .ge 5, 3) := by decide +kernel
theorem dX0_throwOut_13 : decode cX0_throwOut 13 = .ok (.iconst (-1), 1) := by decide +kernel
theorem dX0_throwOut_14 : decode cX0_throwOut 14 = .ok (.ireturn, 1) := by decide +kernel
theorem dX0_throwOut_15 : decode cX0_throwOut 15 = .ok (.aload_n 0, 1) := by decide +kernel
theorem dX0_throwOut_16 : decode cX0_throwOut 16 = .ok (.getfield 15, 3) := by decide +kernel
theorem dX0_throwOut_19 : decode cX0_throwOut 19 = .ok (.getfield 60, 3) := by decide +kernel
theorem dX0_throwOut_22 : decode cX0_throwOut 22 = .ok (.iload_n 2, 1) := by decide +kernel
theorem dX0_throwOut_23 : decode cX0_throwOut 23 = .ok (.iaload, 1) := by decide +kernel
theorem dX0_throwOut_24 : decode cX0_throwOut 24 = .ok (.invokestatic 50, 3) := by decide +kernel
theorem dX0_throwOut_27 : decode cX0_throwOut 27 = .ok (.istore_n 3, 1) := by decide +kernel
theorem dX0_throwOut_28 : decode cX0_throwOut 28 = .ok (.aload_n 0, 1) := by decide +kernel
theorem dX0_throwOut_29 : decode cX0_throwOut 29 = .ok (.getfield 15, 3) := by decide +kernel
theorem dX0_throwOut_32 : decode cX0_throwOut 32 = .ok (.getfield 47, 3) := by decide +kernel
theorem dX0_throwOut_35 : decode cX0_throwOut 35 = .ok (.iconst 3, 1) := by decide +kernel
theorem dX0_throwOut_36 : decode cX0_throwOut 36 = .ok (.dup2, 1) := by decide +kernel
theorem dX0_throwOut_37 : decode cX0_throwOut 37 = .ok (.iaload, 1) := by decide +kernel
theorem dX0_throwOut_38 : decode cX0_throwOut 38 = .ok (.iload_n 3, 1) := by decide +kernel
theorem dX0_throwOut_39 : decode cX0_throwOut 39 = .ok (.iadd, 1) := by decide +kernel
theorem dX0_throwOut_40 : decode cX0_throwOut 40 = .ok (.iastore, 1) := by decide +kernel
theorem dX0_throwOut_41 : decode cX0_throwOut 41 = .ok (.aload_n 0, 1) := by decide +kernel
theorem dX0_throwOut_42 : decode cX0_throwOut 42 = .ok (.getfield 15, 3) := by decide +kernel
theorem dX0_throwOut_45 : decode cX0_throwOut 45 = .ok (.iload_n 2, 1) := by decide +kernel
theorem dX0_throwOut_46 : decode cX0_throwOut 46 = .ok (.invokevirtual 75, 3) := by decide +kernel
theorem dX0_throwOut_49 : decode cX0_throwOut 49 = .ok (.iload_n 3, 1) := by decide +kernel
theorem dX0_throwOut_50 : decode cX0_throwOut 50 = .ok (.ireturn, 1) := by decide +kernel
theorem dX0_makeBland_0 : decode cX0_makeBland 0 = .ok (.iload_n 1, 1) := by decide +kernel
theorem dX0_makeBland_1 : decode cX0_makeBland 1 = .ok (.invokestatic 27, 3) := by decide +kernel
theorem dX0_makeBland_4 : decode cX0_makeBland 4 = .ok (.ifCond .ne 6, 3) := by decide +kernel
theorem dX0_makeBland_7 : decode cX0_makeBland 7 = .ok (.bipush (-2), 2) := by decide +kernel
theorem dX0_makeBland_9 : decode cX0_makeBland 9 = .ok (.ireturn, 1) := by decide +kernel
theorem dX0_makeBland_10 : decode cX0_makeBland 10 = .ok (.aload_n 0, 1) := by decide +kernel
theorem dX0_makeBland_11 : decode cX0_makeBland 11 = .ok (.getfield 15, 3) := by decide +kernel
theorem dX0_makeBland_14 : decode cX0_makeBland 14 = .ok (.getfield 79, 3) := by decide +kernel
theorem dX0_makeBland_17 : decode cX0_makeBland 17 = .ok (.bipush 8, 2) := by decide +kernel
theorem dX0_makeBland_19 : decode cX0_makeBland 19 = .ok (.if_icmp .lt 6, 3) := by decide +kernel
theorem dX0_makeBland_22 : decode cX0_makeBland 22 = .ok (.bipush (-3), 2) := by decide +kernel
theorem dX0_makeBland_24 : decode cX0_makeBland 24 = .ok (.ireturn, 1) := by decide +kernel
theorem dX0_makeBland_25 : decode cX0_makeBland 25 = .ok (.aload_n 0, 1) := by decide +kernel
theorem dX0_makeBland_26 : decode cX0_makeBland 26 = .ok (.getfield 15, 3) := by decide +kernel
theorem dX0_makeBland_29 : decode cX0_makeBland 29 = .ok (.getfield 83, 3) := by decide +kernel
theorem dX0_makeBland_32 : decode cX0_makeBland 32 = .ok (.aload_n 0, 1) := by decide +kernel
theorem dX0_makeBland_33 : decode cX0_makeBland 33 = .ok (.getfield 15, 3) := by decide +kernel
theorem dX0_makeBland_36 : decode cX0_makeBland 36 = .ok (.getfield 79, 3) := by decide +kernel
theorem dX0_makeBland_39 : decode cX0_makeBland 39 = .ok (.iload_n 1, 1) := by decide +kernel
theorem dX0_makeBland_40 : decode cX0_makeBland 40 = .ok (.iastore, 1) := by decide +kernel
theorem dX0_makeBland_41 : decode cX0_makeBland 41 = .ok (.aload_n 0, 1) := by decide +kernel
theorem dX0_makeBland_42 : decode cX0_makeBland 42 = .ok (.getfield 15, 3) := by decide +kernel
theorem dX0_makeBland_45 : decode cX0_makeBland 45 = .ok (.dup, 1) := by decide +kernel
theorem dX0_makeBland_46 : decode cX0_makeBland 46 = .ok (.getfield 79, 3) := by decide +kernel
theorem dX0_makeBland_49 : decode cX0_makeBland 49 = .ok (.iconst 1, 1) := by decide +kernel
theorem dX0_makeBland_50 : decode cX0_makeBland 50 = .ok (.iadd, 1) := by decide +kernel
theorem dX0_makeBland_51 : decode cX0_makeBland 51 = .ok (.putfield 79, 3) := by decide +kernel
theorem dX0_makeBland_54 : decode cX0_makeBland 54 = .ok (.aload_n 0, 1) := by decide +kernel
theorem dX0_makeBland_55 : decode cX0_makeBland 55 = .ok (.getfield 15, 3) := by decide +kernel
theorem dX0_makeBland_58 : decode cX0_makeBland 58 = .ok (.getfield 79, 3) := by decide +kernel
theorem dX0_makeBland_61 : decode cX0_makeBland 61 = .ok (.ireturn, 1) := by decide +kernel
theorem dX0_dropRule_0 : decode cX0_dropRule 0 = .ok (.iload_n 1, 1) := by decide +kernel
theorem dX0_dropRule_1 : decode cX0_dropRule 1 = .ok (.ifCond .lt 14, 3) := by decide +kernel
theorem dX0_dropRule_4 : decode cX0_dropRule 4 = .ok (.iload_n 1, 1) := by decide +kernel
theorem dX0_dropRule_5 : decode cX0_dropRule 5 = .ok (.aload_n 0, 1) := by decide +kernel
theorem dX0_dropRule_6 : decode cX0_dropRule 6 = .ok (.getfield 15, 3) := by decide +kernel
theorem dX0_dropRule_9 : decode cX0_dropRule 9 = .ok (.getfield 79, 3) := by decide +kernel
theorem dX0_dropRule_12 : decode cX0_dropRule 12 = .ok (.if_icmp .lt 5, 3) := by decide +kernel
theorem dX0_dropRule_15 : decode cX0_dropRule 15 = .ok (.iconst (-1), 1) := by decide +kernel
theorem dX0_dropRule_16 : decode cX0_dropRule 16 = .ok (.ireturn, 1) := by decide +kernel
theorem dX0_dropRule_17 : decode cX0_dropRule 17 = .ok (.aload_n 0, 1) := by decide +kernel
theorem dX0_dropRule_18 : decode cX0_dropRule 18 = .ok (.getfield 15, 3) := by decide +kernel
theorem dX0_dropRule_21 : decode cX0_dropRule 21 = .ok (.iload_n 1, 1) := by decide +kernel
theorem dX0_dropRule_22 : decode cX0_dropRule 22 = .ok (.invokevirtual 86, 3) := by decide +kernel
theorem dX0_dropRule_25 : decode cX0_dropRule 25 = .ok (.aload_n 0, 1) := by decide +kernel
theorem dX0_dropRule_26 : decode cX0_dropRule 26 = .ok (.getfield 15, 3) := by decide +kernel
theorem dX0_dropRule_29 : decode cX0_dropRule 29 = .ok (.getfield 79, 3) := by decide +kernel
theorem dX0_dropRule_32 : decode cX0_dropRule 32 = .ok (.ireturn, 1) := by decide +kernel
theorem dX0_setPrice_0 : decode cX0_setPrice 0 = .ok (.iload_n 1, 1) := by decide +kernel
theorem dX0_setPrice_1 : decode cX0_setPrice 1 = .ok (.ifCond .lt 9, 3) := by decide +kernel
theorem dX0_setPrice_4 : decode cX0_setPrice 4 = .ok (.iload_n 1, 1) := by decide +kernel
theorem dX0_setPrice_5 : decode cX0_setPrice 5 = .ok (.bipush 8, 2) := by decide +kernel
theorem dX0_setPrice_7 : decode cX0_setPrice 7 = .ok (.if_icmp .lt 5, 3) := by decide +kernel
theorem dX0_setPrice_10 : decode cX0_setPrice 10 = .ok (.iconst (-1), 1) := by decide +kernel
theorem dX0_setPrice_11 : decode cX0_setPrice 11 = .ok (.ireturn, 1) := by decide +kernel
theorem dX0_setPrice_12 : decode cX0_setPrice 12 = .ok (.iload_n 2, 1) := by decide +kernel
theorem dX0_setPrice_13 : decode cX0_setPrice 13 = .ok (.ifCond .lt 9, 3) := by decide +kernel
theorem dX0_setPrice_16 : decode cX0_setPrice 16 = .ok (.iload_n 2, 1) := by decide +kernel
theorem dX0_setPrice_17 : decode cX0_setPrice 17 = .ok (.bipush 99, 2) := by decide +kernel
theorem dX0_setPrice_19 : decode cX0_setPrice 19 = .ok (.if_icmp .le 6, 3) := by decide +kernel
theorem dX0_setPrice_22 : decode cX0_setPrice 22 = .ok (.bipush (-2), 2) := by decide +kernel
theorem dX0_setPrice_24 : decode cX0_setPrice 24 = .ok (.ireturn, 1) := by decide +kernel
theorem dX0_setPrice_25 : decode cX0_setPrice 25 = .ok (.aload_n 0, 1) := by decide +kernel
theorem dX0_setPrice_26 : decode cX0_setPrice 26 = .ok (.getfield 15, 3) := by decide +kernel
theorem dX0_setPrice_29 : decode cX0_setPrice 29 = .ok (.getfield 44, 3) := by decide +kernel
theorem dX0_setPrice_32 : decode cX0_setPrice 32 = .ok (.iload_n 1, 1) := by decide +kernel
theorem dX0_setPrice_33 : decode cX0_setPrice 33 = .ok (.iaload, 1) := by decide +kernel
theorem dX0_setPrice_34 : decode cX0_setPrice 34 = .ok (.istore_n 3, 1) := by decide +kernel
theorem dX0_setPrice_35 : decode cX0_setPrice 35 = .ok (.iload_n 3, 1) := by decide +kernel
theorem dX0_setPrice_36 : decode cX0_setPrice 36 = .ok (.iload_n 2, 1) := by decide +kernel
theorem dX0_setPrice_37 : decode cX0_setPrice 37 = .ok (.if_icmp .ne 6, 3) := by decide +kernel
theorem dX0_setPrice_40 : decode cX0_setPrice 40 = .ok (.bipush (-5), 2) := by decide +kernel
theorem dX0_setPrice_42 : decode cX0_setPrice 42 = .ok (.ireturn, 1) := by decide +kernel
theorem dX0_setPrice_43 : decode cX0_setPrice 43 = .ok (.aload_n 0, 1) := by decide +kernel
theorem dX0_setPrice_44 : decode cX0_setPrice 44 = .ok (.getfield 15, 3) := by decide +kernel
theorem dX0_setPrice_47 : decode cX0_setPrice 47 = .ok (.getfield 44, 3) := by decide +kernel
theorem dX0_setPrice_50 : decode cX0_setPrice 50 = .ok (.iload_n 1, 1) := by decide +kernel
theorem dX0_setPrice_51 : decode cX0_setPrice 51 = .ok (.iload_n 2, 1) := by decide +kernel
theorem dX0_setPrice_52 : decode cX0_setPrice 52 = .ok (.iastore, 1) := by decide +kernel
theorem dX0_setPrice_53 : decode cX0_setPrice 53 = .ok (.iload_n 3, 1) := by decide +kernel
theorem dX0_setPrice_54 : decode cX0_setPrice 54 = .ok (.ireturn, 1) := by decide +kernel
theorem dX0_welcome_0 : decode cX0_welcome 0 = .ok (.iload_n 1, 1) := by decide +kernel
theorem dX0_welcome_1 : decode cX0_welcome 1 = .ok (.invokestatic 27, 3) := by decide +kernel
theorem dX0_welcome_4 : decode cX0_welcome 4 = .ok (.ifCond .ne 6, 3) := by decide +kernel
theorem dX0_welcome_7 : decode cX0_welcome 7 = .ok (.bipush (-2), 2) := by decide +kernel
theorem dX0_welcome_9 : decode cX0_welcome 9 = .ok (.ireturn, 1) := by decide +kernel
theorem dX0_welcome_10 : decode cX0_welcome 10 = .ok (.aload_n 0, 1) := by decide +kernel
theorem dX0_welcome_11 : decode cX0_welcome 11 = .ok (.getfield 15, 3) := by decide +kernel
theorem dX0_welcome_14 : decode cX0_welcome 14 = .ok (.getfield 89, 3) := by decide +kernel
theorem dX0_welcome_17 : decode cX0_welcome 17 = .ok (.bipush 8, 2) := by decide +kernel
theorem dX0_welcome_19 : decode cX0_welcome 19 = .ok (.if_icmp .lt 6, 3) := by decide +kernel
theorem dX0_welcome_22 : decode cX0_welcome 22 = .ok (.bipush (-3), 2) := by decide +kernel
theorem dX0_welcome_24 : decode cX0_welcome 24 = .ok (.ireturn, 1) := by decide +kernel
theorem dX0_welcome_25 : decode cX0_welcome 25 = .ok (.aload_n 0, 1) := by decide +kernel
theorem dX0_welcome_26 : decode cX0_welcome 26 = .ok (.getfield 15, 3) := by decide +kernel
theorem dX0_welcome_29 : decode cX0_welcome 29 = .ok (.getfield 92, 3) := by decide +kernel
theorem dX0_welcome_32 : decode cX0_welcome 32 = .ok (.aload_n 0, 1) := by decide +kernel
theorem dX0_welcome_33 : decode cX0_welcome 33 = .ok (.getfield 15, 3) := by decide +kernel
theorem dX0_welcome_36 : decode cX0_welcome 36 = .ok (.getfield 89, 3) := by decide +kernel
theorem dX0_welcome_39 : decode cX0_welcome 39 = .ok (.iload_n 1, 1) := by decide +kernel
theorem dX0_welcome_40 : decode cX0_welcome 40 = .ok (.iastore, 1) := by decide +kernel
theorem dX0_welcome_41 : decode cX0_welcome 41 = .ok (.aload_n 0, 1) := by decide +kernel
theorem dX0_welcome_42 : decode cX0_welcome 42 = .ok (.getfield 15, 3) := by decide +kernel
theorem dX0_welcome_45 : decode cX0_welcome 45 = .ok (.dup, 1) := by decide +kernel
theorem dX0_welcome_46 : decode cX0_welcome 46 = .ok (.getfield 89, 3) := by decide +kernel
theorem dX0_welcome_49 : decode cX0_welcome 49 = .ok (.iconst 1, 1) := by decide +kernel
theorem dX0_welcome_50 : decode cX0_welcome 50 = .ok (.iadd, 1) := by decide +kernel
theorem dX0_welcome_51 : decode cX0_welcome 51 = .ok (.putfield 89, 3) := by decide +kernel
theorem dX0_welcome_54 : decode cX0_welcome 54 = .ok (.aload_n 0, 1) := by decide +kernel
theorem dX0_welcome_55 : decode cX0_welcome 55 = .ok (.getfield 15, 3) := by decide +kernel
theorem dX0_welcome_58 : decode cX0_welcome 58 = .ok (.getfield 89, 3) := by decide +kernel
theorem dX0_welcome_61 : decode cX0_welcome 61 = .ok (.ireturn, 1) := by decide +kernel
theorem dX0_serveFirst_0 : decode cX0_serveFirst 0 = .ok (.aload_n 0, 1) := by decide +kernel
theorem dX0_serveFirst_1 : decode cX0_serveFirst 1 = .ok (.getfield 15, 3) := by decide +kernel
theorem dX0_serveFirst_4 : decode cX0_serveFirst 4 = .ok (.getfield 89, 3) := by decide +kernel
theorem dX0_serveFirst_7 : decode cX0_serveFirst 7 = .ok (.ifCond .ne 6, 3) := by decide +kernel
theorem dX0_serveFirst_10 : decode cX0_serveFirst 10 = .ok (.bipush (-5), 2) := by decide +kernel
theorem dX0_serveFirst_12 : decode cX0_serveFirst 12 = .ok (.ireturn, 1) := by decide +kernel
theorem dX0_serveFirst_13 : decode cX0_serveFirst 13 = .ok (.aload_n 0, 1) := by decide +kernel
theorem dX0_serveFirst_14 : decode cX0_serveFirst 14 = .ok (.getfield 15, 3) := by decide +kernel
theorem dX0_serveFirst_17 : decode cX0_serveFirst 17 = .ok (.invokevirtual 95, 3) := by decide +kernel
theorem dX0_serveFirst_20 : decode cX0_serveFirst 20 = .ok (.istore_n 1, 1) := by decide +kernel
theorem dX0_serveFirst_21 : decode cX0_serveFirst 21 = .ok (.aload_n 0, 1) := by decide +kernel
theorem dX0_serveFirst_22 : decode cX0_serveFirst 22 = .ok (.getfield 23, 3) := by decide +kernel
theorem dX0_serveFirst_25 : decode cX0_serveFirst 25 = .ok (.aload_n 0, 1) := by decide +kernel
theorem dX0_serveFirst_26 : decode cX0_serveFirst 26 = .ok (.getfield 15, 3) := by decide +kernel
theorem dX0_serveFirst_29 : decode cX0_serveFirst 29 = .ok (.invokevirtual 99, 3) := by decide +kernel
theorem dX0_serveFirst_32 : decode cX0_serveFirst 32 = .ok (.aload_n 0, 1) := by decide +kernel
theorem dX0_serveFirst_33 : decode cX0_serveFirst 33 = .ok (.getfield 23, 3) := by decide +kernel
theorem dX0_serveFirst_36 : decode cX0_serveFirst 36 = .ok (.aload_n 0, 1) := by decide +kernel
theorem dX0_serveFirst_37 : decode cX0_serveFirst 37 = .ok (.getfield 23, 3) := by decide +kernel
theorem dX0_serveFirst_40 : decode cX0_serveFirst 40 = .ok (.iload_n 1, 1) := by decide +kernel
theorem dX0_serveFirst_41 : decode cX0_serveFirst 41 = .ok (.invokevirtual 105, 3) := by decide +kernel
theorem dX0_serveFirst_44 : decode cX0_serveFirst 44 = .ok (.aload_n 0, 1) := by decide +kernel
theorem dX0_serveFirst_45 : decode cX0_serveFirst 45 = .ok (.getfield 15, 3) := by decide +kernel
theorem dX0_serveFirst_48 : decode cX0_serveFirst 48 = .ok (.invokevirtual 108, 3) := by decide +kernel
theorem dX0_serveFirst_51 : decode cX0_serveFirst 51 = .ok (.istore_n 2, 1) := by decide +kernel
theorem dX0_serveFirst_52 : decode cX0_serveFirst 52 = .ok (.iload_n 2, 1) := by decide +kernel
theorem dX0_serveFirst_53 : decode cX0_serveFirst 53 = .ok (.ifCond .ge 19, 3) := by decide +kernel
theorem dX0_serveFirst_56 : decode cX0_serveFirst 56 = .ok (.aload_n 0, 1) := by decide +kernel
theorem dX0_serveFirst_57 : decode cX0_serveFirst 57 = .ok (.getfield 15, 3) := by decide +kernel
theorem dX0_serveFirst_60 : decode cX0_serveFirst 60 = .ok (.getfield 47, 3) := by decide +kernel
theorem dX0_serveFirst_63 : decode cX0_serveFirst 63 = .ok (.bipush 7, 2) := by decide +kernel
theorem dX0_serveFirst_65 : decode cX0_serveFirst 65 = .ok (.dup2, 1) := by decide +kernel
theorem dX0_serveFirst_66 : decode cX0_serveFirst 66 = .ok (.iaload, 1) := by decide +kernel
theorem dX0_serveFirst_67 : decode cX0_serveFirst 67 = .ok (.iconst 1, 1) := by decide +kernel
theorem dX0_serveFirst_68 : decode cX0_serveFirst 68 = .ok (.iadd, 1) := by decide +kernel
theorem dX0_serveFirst_69 : decode cX0_serveFirst 69 = .ok (.iastore, 1) := by decide +kernel
theorem dX0_serveFirst_70 : decode cX0_serveFirst 70 = .ok (.iconst 0, 1) := by decide +kernel
theorem dX0_serveFirst_71 : decode cX0_serveFirst 71 = .ok (.ireturn, 1) := by decide +kernel
theorem dX0_serveFirst_72 : decode cX0_serveFirst 72 = .ok (.aload_n 0, 1) := by decide +kernel
theorem dX0_serveFirst_73 : decode cX0_serveFirst 73 = .ok (.iload_n 2, 1) := by decide +kernel
theorem dX0_serveFirst_74 : decode cX0_serveFirst 74 = .ok (.invokevirtual 112, 3) := by decide +kernel
theorem dX0_serveFirst_77 : decode cX0_serveFirst 77 = .ok (.ireturn, 1) := by decide +kernel
theorem dX0_sell_0 : decode cX0_sell 0 = .ok (.aload_n 0, 1) := by decide +kernel
theorem dX0_sell_1 : decode cX0_sell 1 = .ok (.getfield 15, 3) := by decide +kernel
theorem dX0_sell_4 : decode cX0_sell 4 = .ok (.getfield 60, 3) := by decide +kernel
theorem dX0_sell_7 : decode cX0_sell 7 = .ok (.iload_n 1, 1) := by decide +kernel
theorem dX0_sell_8 : decode cX0_sell 8 = .ok (.iaload, 1) := by decide +kernel
theorem dX0_sell_9 : decode cX0_sell 9 = .ok (.istore_n 2, 1) := by decide +kernel
theorem dX0_sell_10 : decode cX0_sell 10 = .ok (.iload_n 2, 1) := by decide +kernel
theorem dX0_sell_11 : decode cX0_sell 11 = .ok (.aload_n 0, 1) := by decide +kernel
theorem dX0_sell_12 : decode cX0_sell 12 = .ok (.getfield 15, 3) := by decide +kernel
theorem dX0_sell_15 : decode cX0_sell 15 = .ok (.getfield 44, 3) := by decide +kernel
theorem dX0_sell_18 : decode cX0_sell 18 = .ok (.invokestatic 66, 3) := by decide +kernel
theorem dX0_sell_21 : decode cX0_sell 21 = .ok (.istore_n 3, 1) := by decide +kernel
theorem dX0_sell_22 : decode cX0_sell 22 = .ok (.iload_n 3, 1) := by decide +kernel
theorem dX0_sell_23 : decode cX0_sell 23 = .ok (.iload_n 3, 1) := by decide +kernel
theorem dX0_sell_24 : decode cX0_sell 24 = .ok (.iconst 2, 1) := by decide +kernel
theorem dX0_sell_25 : decode cX0_sell 25 = .ok (.idiv, 1) := by decide +kernel
theorem dX0_sell_26 : decode cX0_sell 26 = .ok (.iadd, 1) := by decide +kernel
theorem dX0_sell_27 : decode cX0_sell 27 = .ok (.istore 4, 2) := by decide +kernel
theorem dX0_sell_29 : decode cX0_sell 29 = .ok (.aload_n 0, 1) := by decide +kernel
theorem dX0_sell_30 : decode cX0_sell 30 = .ok (.getfield 15, 3) := by decide +kernel
theorem dX0_sell_33 : decode cX0_sell 33 = .ok (.getfield 47, 3) := by decide +kernel
theorem dX0_sell_36 : decode cX0_sell 36 = .ok (.iconst 2, 1) := by decide +kernel
theorem dX0_sell_37 : decode cX0_sell 37 = .ok (.dup2, 1) := by decide +kernel
theorem dX0_sell_38 : decode cX0_sell 38 = .ok (.iaload, 1) := by decide +kernel
theorem dX0_sell_39 : decode cX0_sell 39 = .ok (.iload_n 2, 1) := by decide +kernel
theorem dX0_sell_40 : decode cX0_sell 40 = .ok (.invokestatic 50, 3) := by decide +kernel
theorem dX0_sell_43 : decode cX0_sell 43 = .ok (.iadd, 1) := by decide +kernel
theorem dX0_sell_44 : decode cX0_sell 44 = .ok (.iastore, 1) := by decide +kernel
theorem dX0_sell_45 : decode cX0_sell 45 = .ok (.aload_n 0, 1) := by decide +kernel
theorem dX0_sell_46 : decode cX0_sell 46 = .ok (.getfield 15, 3) := by decide +kernel
theorem dX0_sell_49 : decode cX0_sell 49 = .ok (.getfield 47, 3) := by decide +kernel
theorem dX0_sell_52 : decode cX0_sell 52 = .ok (.iconst 5, 1) := by decide +kernel
theorem dX0_sell_53 : decode cX0_sell 53 = .ok (.dup2, 1) := by decide +kernel
theorem dX0_sell_54 : decode cX0_sell 54 = .ok (.iaload, 1) := by decide +kernel
theorem dX0_sell_55 : decode cX0_sell 55 = .ok (.iload 4, 2) := by decide +kernel
theorem dX0_sell_57 : decode cX0_sell 57 = .ok (.iadd, 1) := by decide +kernel
theorem dX0_sell_58 : decode cX0_sell 58 = .ok (.iastore, 1) := by decide +kernel
theorem dX0_sell_59 : decode cX0_sell 59 = .ok (.aload_n 0, 1) := by decide +kernel
theorem dX0_sell_60 : decode cX0_sell 60 = .ok (.getfield 15, 3) := by decide +kernel
theorem dX0_sell_63 : decode cX0_sell 63 = .ok (.getfield 47, 3) := by decide +kernel
theorem dX0_sell_66 : decode cX0_sell 66 = .ok (.bipush 6, 2) := by decide +kernel
theorem dX0_sell_68 : decode cX0_sell 68 = .ok (.dup2, 1) := by decide +kernel
theorem dX0_sell_69 : decode cX0_sell 69 = .ok (.iaload, 1) := by decide +kernel
theorem dX0_sell_70 : decode cX0_sell 70 = .ok (.iconst 1, 1) := by decide +kernel
theorem dX0_sell_71 : decode cX0_sell 71 = .ok (.iadd, 1) := by decide +kernel
theorem dX0_sell_72 : decode cX0_sell 72 = .ok (.iastore, 1) := by decide +kernel
theorem dX0_sell_73 : decode cX0_sell 73 = .ok (.aload_n 0, 1) := by decide +kernel
theorem dX0_sell_74 : decode cX0_sell 74 = .ok (.getfield 15, 3) := by decide +kernel
theorem dX0_sell_77 : decode cX0_sell 77 = .ok (.iload_n 1, 1) := by decide +kernel
theorem dX0_sell_78 : decode cX0_sell 78 = .ok (.invokevirtual 75, 3) := by decide +kernel
theorem dX0_sell_81 : decode cX0_sell 81 = .ok (.iload 4, 2) := by decide +kernel
theorem dX0_sell_83 : decode cX0_sell 83 = .ok (.ireturn, 1) := by decide +kernel
theorem dX0_performAll_0 : decode cX0_performAll 0 = .ok (.aload_n 1, 1) := by decide +kernel
theorem dX0_performAll_1 : decode cX0_performAll 1 = .ok (.invokevirtual 115, 3) := by decide +kernel
theorem dX0_performAll_4 : decode cX0_performAll 4 = .ok (.iconst 0, 1) := by decide +kernel
theorem dX0_performAll_5 : decode cX0_performAll 5 = .ok (.istore_n 2, 1) := by decide +kernel
theorem dX0_performAll_6 : decode cX0_performAll 6 = .ok (.iconst 1, 1) := by decide +kernel
theorem dX0_performAll_7 : decode cX0_performAll 7 = .ok (.istore_n 3, 1) := by decide +kernel
theorem dX0_performAll_8 : decode cX0_performAll 8 = .ok (.iload_n 3, 1) := by decide +kernel
theorem dX0_performAll_9 : decode cX0_performAll 9 = .ok (.ifCond .eq 49, 3) := by decide +kernel
theorem dX0_performAll_12 : decode cX0_performAll 12 = .ok (.iload_n 2, 1) := by decide +kernel
theorem dX0_performAll_13 : decode cX0_performAll 13 = .ok (.bipush 60, 2) := by decide +kernel
theorem dX0_performAll_15 : decode cX0_performAll 15 = .ok (.if_icmp .ge 43, 3) := by decide +kernel
theorem dX0_performAll_18 : decode cX0_performAll 18 = .ok (.aload_n 1, 1) := by decide +kernel
theorem dX0_performAll_19 : decode cX0_performAll 19 = .ok (.invokevirtual 120, 3) := by decide +kernel
theorem dX0_performAll_22 : decode cX0_performAll 22 = .ok (.pop, 1) := by decide +kernel
theorem dX0_performAll_23 : decode cX0_performAll 23 = .ok (.aload_n 0, 1) := by decide +kernel
theorem dX0_performAll_24 : decode cX0_performAll 24 = .ok (.aload_n 1, 1) := by decide +kernel
theorem dX0_performAll_25 : decode cX0_performAll 25 = .ok (.invokevirtual 123, 3) := by decide +kernel
theorem dX0_performAll_28 : decode cX0_performAll 28 = .ok (.istore 4, 2) := by decide +kernel
theorem dX0_performAll_30 : decode cX0_performAll 30 = .ok (.iload 4, 2) := by decide +kernel
theorem dX0_performAll_32 : decode cX0_performAll 32 = .ok (.ifCond .ge 13, 3) := by decide +kernel
theorem dX0_performAll_35 : decode cX0_performAll 35 = .ok (.iload 4, 2) := by decide +kernel
theorem dX0_performAll_37 : decode cX0_performAll 37 = .ok (.bipush (-5), 2) := by decide +kernel
theorem dX0_performAll_39 : decode cX0_performAll 39 = .ok (.if_icmp .eq 6, 3) := by decide +kernel
theorem dX0_performAll_42 : decode cX0_performAll 42 = .ok (.iload 4, 2) := by decide +kernel
theorem dX0_performAll_44 : decode cX0_performAll 44 = .ok (.ireturn, 1) := by decide +kernel
theorem dX0_performAll_45 : decode cX0_performAll 45 = .ok (.iinc 2 1, 3) := by decide +kernel
theorem dX0_performAll_48 : decode cX0_performAll 48 = .ok (.aload_n 1, 1) := by decide +kernel
theorem dX0_performAll_49 : decode cX0_performAll 49 = .ok (.bipush 59, 2) := by decide +kernel
theorem dX0_performAll_51 : decode cX0_performAll 51 = .ok (.invokevirtual 127, 3) := by decide +kernel
theorem dX0_performAll_54 : decode cX0_performAll 54 = .ok (.istore_n 3, 1) := by decide +kernel
theorem dX0_performAll_55 : decode cX0_performAll 55 = .ok (.goto (-47), 3) := by decide +kernel
theorem dX0_performAll_58 : decode cX0_performAll 58 = .ok (.iload_n 2, 1) := by decide +kernel
theorem dX0_performAll_59 : decode cX0_performAll 59 = .ok (.ireturn, 1) := by decide +kernel
theorem dX0_perform_0 : decode cX0_perform 0 = .ok (.aload_n 1, 1) := by decide +kernel
theorem dX0_perform_1 : decode cX0_perform 1 = .ok (.getfield 131, 3) := by decide +kernel
theorem dX0_perform_4 : decode cX0_perform 4 = .ok (.tableswitch 98 0 5 #[40, 49, 58, 67, 76, 89], 40) := by decide +kernel
theorem dX0_perform_44 : decode cX0_perform 44 = .ok (.aload_n 0, 1) := by decide +kernel
theorem dX0_perform_45 : decode cX0_perform 45 = .ok (.aload_n 1, 1) := by decide +kernel
theorem dX0_perform_46 : decode cX0_perform 46 = .ok (.getfield 134, 3) := by decide +kernel
theorem dX0_perform_49 : decode cX0_perform 49 = .ok (.invokevirtual 34, 3) := by decide +kernel
theorem dX0_perform_52 : decode cX0_perform 52 = .ok (.ireturn, 1) := by decide +kernel
theorem dX0_perform_53 : decode cX0_perform 53 = .ok (.aload_n 0, 1) := by decide +kernel
theorem dX0_perform_54 : decode cX0_perform 54 = .ok (.aload_n 1, 1) := by decide +kernel
theorem dX0_perform_55 : decode cX0_perform 55 = .ok (.invokevirtual 135, 3) := by decide +kernel
theorem dX0_perform_58 : decode cX0_perform 58 = .ok (.invokevirtual 138, 3) := by decide +kernel
theorem dX0_perform_61 : decode cX0_perform 61 = .ok (.ireturn, 1) := by decide +kernel
theorem dX0_perform_62 : decode cX0_perform 62 = .ok (.aload_n 0, 1) := by decide +kernel
theorem dX0_perform_63 : decode cX0_perform 63 = .ok (.aload_n 1, 1) := by decide +kernel
theorem dX0_perform_64 : decode cX0_perform 64 = .ok (.invokevirtual 135, 3) := by decide +kernel
theorem dX0_perform_67 : decode cX0_perform 67 = .ok (.invokevirtual 141, 3) := by decide +kernel
theorem dX0_perform_70 : decode cX0_perform 70 = .ok (.ireturn, 1) := by decide +kernel
theorem dX0_perform_71 : decode cX0_perform 71 = .ok (.aload_n 0, 1) := by decide +kernel
theorem dX0_perform_72 : decode cX0_perform 72 = .ok (.aload_n 1, 1) := by decide +kernel
theorem dX0_perform_73 : decode cX0_perform 73 = .ok (.getfield 144, 3) := by decide +kernel
theorem dX0_perform_76 : decode cX0_perform 76 = .ok (.invokevirtual 147, 3) := by decide +kernel
theorem dX0_perform_79 : decode cX0_perform 79 = .ok (.ireturn, 1) := by decide +kernel
theorem dX0_perform_80 : decode cX0_perform 80 = .ok (.aload_n 0, 1) := by decide +kernel
theorem dX0_perform_81 : decode cX0_perform 81 = .ok (.aload_n 1, 1) := by decide +kernel
theorem dX0_perform_82 : decode cX0_perform 82 = .ok (.getfield 144, 3) := by decide +kernel
theorem dX0_perform_85 : decode cX0_perform 85 = .ok (.aload_n 1, 1) := by decide +kernel
theorem dX0_perform_86 : decode cX0_perform 86 = .ok (.getfield 150, 3) := by decide +kernel
theorem dX0_perform_89 : decode cX0_perform 89 = .ok (.invokevirtual 153, 3) := by decide +kernel
theorem dX0_perform_92 : decode cX0_perform 92 = .ok (.ireturn, 1) := by decide +kernel
theorem dX0_perform_93 : decode cX0_perform 93 = .ok (.aload_n 0, 1) := by decide +kernel
theorem dX0_perform_94 : decode cX0_perform 94 = .ok (.aload_n 1, 1) := by decide +kernel
theorem dX0_perform_95 : decode cX0_perform 95 = .ok (.getfield 144, 3) := by decide +kernel
theorem dX0_perform_98 : decode cX0_perform 98 = .ok (.invokevirtual 156, 3) := by decide +kernel
theorem dX0_perform_101 : decode cX0_perform 101 = .ok (.ireturn, 1) := by decide +kernel
theorem dX0_perform_102 : decode cX0_perform 102 = .ok (.bipush (-5), 2) := by decide +kernel
theorem dX0_perform_104 : decode cX0_perform 104 = .ok (.ireturn, 1) := by decide +kernel
theorem dX1_init_0 : decode cX1_init 0 = .ok (.aload_n 0, 1) := by decide +kernel
theorem dX1_init_1 : decode cX1_init 1 = .ok (.invokespecial 3, 3) := by decide +kernel
theorem dX1_init_4 : decode cX1_init 4 = .ok (.aload_n 0, 1) := by decide +kernel
theorem dX1_init_5 : decode cX1_init 5 = .ok (.sipush 4096, 3) := by decide +kernel
theorem dX1_init_8 : decode cX1_init 8 = .ok (.newarray .short, 2) := by decide +kernel
theorem dX1_init_10 : decode cX1_init 10 = .ok (.putfield 9, 3) := by decide +kernel
theorem dX1_init_13 : decode cX1_init 13 = .ok (.aload_n 0, 1) := by decide +kernel
theorem dX1_init_14 : decode cX1_init 14 = .ok (.iconst 1, 1) := by decide +kernel
theorem dX1_init_15 : decode cX1_init 15 = .ok (.putfield 15, 3) := by decide +kernel
theorem dX1_init_18 : decode cX1_init 18 = .ok (.aload_n 0, 1) := by decide +kernel
theorem dX1_init_19 : decode cX1_init 19 = .ok (.sipush 206, 3) := by decide +kernel
theorem dX1_init_22 : decode cX1_init 22 = .ok (.newarray .int, 2) := by decide +kernel
theorem dX1_init_24 : decode cX1_init 24 = .ok (.putfield 19, 3) := by decide +kernel
theorem dX1_init_27 : decode cX1_init 27 = .ok (.aload_n 0, 1) := by decide +kernel
theorem dX1_init_28 : decode cX1_init 28 = .ok (.aload_n 1, 1) := by decide +kernel
theorem dX1_init_29 : decode cX1_init 29 = .ok (.putfield 23, 3) := by decide +kernel
theorem dX1_init_32 : decode cX1_init 32 = .ok (.return_, 1) := by decide +kernel
theorem dX1_spread_0 : decode cX1_spread 0 = .ok (.aload_n 0, 1) := by decide +kernel
theorem dX1_spread_1 : decode cX1_spread 1 = .ok (.getfield 9, 3) := by decide +kernel
theorem dX1_spread_4 : decode cX1_spread 4 = .ok (.iconst 0, 1) := by decide +kernel
theorem dX1_spread_5 : decode cX1_spread 5 = .ok (.iconst 0, 1) := by decide +kernel
theorem dX1_spread_6 : decode cX1_spread 6 = .ok (.sastore, 1) := by decide +kernel
theorem dX1_spread_7 : decode cX1_spread 7 = .ok (.aload_n 0, 1) := by decide +kernel
theorem dX1_spread_8 : decode cX1_spread 8 = .ok (.iconst 1, 1) := by decide +kernel
theorem dX1_spread_9 : decode cX1_spread 9 = .ok (.putfield 15, 3) := by decide +kernel
theorem dX1_spread_12 : decode cX1_spread 12 = .ok (.iconst 0, 1) := by decide +kernel
theorem dX1_spread_13 : decode cX1_spread 13 = .ok (.istore_n 3, 1) := by decide +kernel
theorem dX1_spread_14 : decode cX1_spread 14 = .ok (.iload_n 3, 1) := by decide +kernel
theorem dX1_spread_15 : decode cX1_spread 15 = .ok (.aload_n 2, 1) := by decide +kernel
theorem dX1_spread_16 : decode cX1_spread 16 = .ok (.getfield 27, 3) := by decide +kernel
theorem dX1_spread_19 : decode cX1_spread 19 = .ok (.if_icmp .ge 78, 3) := by decide +kernel
theorem dX1_spread_22 : decode cX1_spread 22 = .ok (.aload_n 1, 1) := by decide +kernel
theorem dX1_spread_23 : decode cX1_spread 23 = .ok (.aload_n 2, 1) := by decide +kernel
theorem dX1_spread_24 : decode cX1_spread 24 = .ok (.getfield 32, 3) := by decide +kernel
theorem dX1_spread_27 : decode cX1_spread 27 = .ok (.iload_n 3, 1) := by decide +kernel
theorem dX1_spread_28 : decode cX1_spread 28 = .ok (.iaload, 1) := by decide +kernel
theorem dX1_spread_29 : decode cX1_spread 29 = .ok (.invokevirtual 34, 3) := by decide +kernel
theorem dX1_spread_32 : decode cX1_spread 32 = .ok (.istore 4, 2) := by decide +kernel
theorem dX1_spread_34 : decode cX1_spread 34 = .ok (.iconst 0, 1) := by decide +kernel
theorem dX1_spread_35 : decode cX1_spread 35 = .ok (.istore 5, 2) := by decide +kernel
theorem dX1_spread_37 : decode cX1_spread 37 = .ok (.iload 5, 2) := by decide +kernel
theorem dX1_spread_39 : decode cX1_spread 39 = .ok (.aload_n 0, 1) := by decide +kernel
theorem dX1_spread_40 : decode cX1_spread 40 = .ok (.getfield 15, 3) := by decide +kernel
theorem dX1_spread_43 : decode cX1_spread 43 = .ok (.if_icmp .ge 38, 3) := by decide +kernel
theorem dX1_spread_46 : decode cX1_spread 46 = .ok (.aload_n 0, 1) := by decide +kernel
theorem dX1_spread_47 : decode cX1_spread 47 = .ok (.getfield 9, 3) := by decide +kernel
theorem dX1_spread_50 : decode cX1_spread 50 = .ok (.aload_n 0, 1) := by decide +kernel
theorem dX1_spread_51 : decode cX1_spread 51 = .ok (.getfield 15, 3) := by decide +kernel
theorem dX1_spread_54 : decode cX1_spread 54 = .ok (.iload 5, 2) := by decide +kernel
theorem dX1_spread_56 : decode cX1_spread 56 = .ok (.iadd, 1) := by decide +kernel
theorem dX1_spread_57 : decode cX1_spread 57 = .ok (.aload_n 0, 1) := by decide +kernel
theorem dX1_spread_58 : decode cX1_spread 58 = .ok (.getfield 23, 3) := by decide +kernel
theorem dX1_spread_61 : decode cX1_spread 61 = .ok (.aload_n 0, 1) := by decide +kernel
theorem dX1_spread_62 : decode cX1_spread 62 = .ok (.getfield 9, 3) := by decide +kernel
theorem dX1_spread_65 : decode cX1_spread 65 = .ok (.iload 5, 2) := by decide +kernel
theorem dX1_spread_67 : decode cX1_spread 67 = .ok (.saload, 1) := by decide +kernel
theorem dX1_spread_68 : decode cX1_spread 68 = .ok (.iload 4, 2) := by decide +kernel
theorem dX1_spread_70 : decode cX1_spread 70 = .ok (.invokevirtual 40, 3) := by decide +kernel
theorem dX1_spread_73 : decode cX1_spread 73 = .ok (.i2s, 1) := by decide +kernel
theorem dX1_spread_74 : decode cX1_spread 74 = .ok (.sastore, 1) := by decide +kernel
theorem dX1_spread_75 : decode cX1_spread 75 = .ok (.iinc 5 1, 3) := by decide +kernel
theorem dX1_spread_78 : decode cX1_spread 78 = .ok (.goto (-41), 3) := by decide +kernel
theorem dX1_spread_81 : decode cX1_spread 81 = .ok (.aload_n 0, 1) := by decide +kernel
theorem dX1_spread_82 : decode cX1_spread 82 = .ok (.iconst 2, 1) := by decide +kernel
theorem dX1_spread_83 : decode cX1_spread 83 = .ok (.aload_n 0, 1) := by decide +kernel
theorem dX1_spread_84 : decode cX1_spread 84 = .ok (.getfield 15, 3) := by decide +kernel
theorem dX1_spread_87 : decode cX1_spread 87 = .ok (.imul, 1) := by decide +kernel
theorem dX1_spread_88 : decode cX1_spread 88 = .ok (.putfield 15, 3) := by decide +kernel
theorem dX1_spread_91 : decode cX1_spread 91 = .ok (.iinc 3 1, 3) := by decide +kernel
theorem dX1_spread_94 : decode cX1_spread 94 = .ok (.goto (-80), 3) := by decide +kernel
theorem dX1_spread_97 : decode cX1_spread 97 = .ok (.return_, 1) := by decide +kernel
theorem dX1_smallestLike_0 : decode cX1_smallestLike 0 = .ok (.bipush (-5), 2) := by decide +kernel
theorem dX1_smallestLike_2 : decode cX1_smallestLike 2 = .ok (.istore_n 2, 1) := by decide +kernel
theorem dX1_smallestLike_3 : decode cX1_smallestLike 3 = .ok (.bipush 13, 2) := by decide +kernel
theorem dX1_smallestLike_5 : decode cX1_smallestLike 5 = .ok (.istore_n 3, 1) := by decide +kernel
theorem dX1_smallestLike_6 : decode cX1_smallestLike 6 = .ok (.iconst 0, 1) := by decide +kernel
theorem dX1_smallestLike_7 : decode cX1_smallestLike 7 = .ok (.istore 4, 2) := by decide +kernel
theorem dX1_smallestLike_9 : decode cX1_smallestLike 9 = .ok (.iload 4, 2) := by decide +kernel
theorem dX1_smallestLike_11 : decode cX1_smallestLike 11 = .ok (.aload_n 0, 1) := by decide +kernel
theorem dX1_smallestLike_12 : decode cX1_smallestLike 12 = .ok (.getfield 15, 3) := by decide +kernel
theorem dX1_smallestLike_15 : decode cX1_smallestLike 15 = .ok (.if_icmp .ge 38, 3) := by decide +kernel
theorem dX1_smallestLike_18 : decode cX1_smallestLike 18 = .ok (.aload_n 0, 1) := by decide +kernel
theorem dX1_smallestLike_19 : decode cX1_smallestLike 19 = .ok (.getfield 9, 3) := by decide +kernel
theorem dX1_smallestLike_22 : decode cX1_smallestLike 22 = .ok (.iload 4, 2) := by decide +kernel
theorem dX1_smallestLike_24 : decode cX1_smallestLike 24 = .ok (.saload, 1) := by decide +kernel
theorem dX1_smallestLike_25 : decode cX1_smallestLike 25 = .ok (.iload_n 1, 1) := by decide +kernel
theorem dX1_smallestLike_26 : decode cX1_smallestLike 26 = .ok (.if_icmp .ne 21, 3) := by decide +kernel
theorem dX1_smallestLike_29 : decode cX1_smallestLike 29 = .ok (.iload 4, 2) := by decide +kernel
theorem dX1_smallestLike_31 : decode cX1_smallestLike 31 = .ok (.invokestatic 46, 3) := by decide +kernel
theorem dX1_smallestLike_34 : decode cX1_smallestLike 34 = .ok (.iload_n 3, 1) := by decide +kernel
theorem dX1_smallestLike_35 : decode cX1_smallestLike 35 = .ok (.if_icmp .ge 12, 3) := by decide +kernel
theorem dX1_smallestLike_38 : decode cX1_smallestLike 38 = .ok (.iload 4, 2) := by decide +kernel
theorem dX1_smallestLike_40 : decode cX1_smallestLike 40 = .ok (.istore_n 2, 1) := by decide +kernel
theorem dX1_smallestLike_41 : decode cX1_smallestLike 41 = .ok (.iload 4, 2) := by decide +kernel
theorem dX1_smallestLike_43 : decode cX1_smallestLike 43 = .ok (.invokestatic 46, 3) := by decide +kernel
theorem dX1_smallestLike_46 : decode cX1_smallestLike 46 = .ok (.istore_n 3, 1) := by decide +kernel
theorem dX1_smallestLike_47 : decode cX1_smallestLike 47 = .ok (.iinc 4 1, 3) := by decide +kernel
theorem dX1_smallestLike_50 : decode cX1_smallestLike 50 = .ok (.goto (-41), 3) := by decide +kernel
theorem dX1_smallestLike_53 : decode cX1_smallestLike 53 = .ok (.iload_n 2, 1) := by decide +kernel
theorem dX1_smallestLike_54 : decode cX1_smallestLike 54 = .ok (.ireturn, 1) := by decide +kernel
theorem dX1_differentTastes_0 : decode cX1_differentTastes 0 = .ok (.aload_n 0, 1) := by decide +kernel
theorem dX1_differentTastes_1 : decode cX1_differentTastes 1 = .ok (.getfield 19, 3) := by decide +kernel
theorem dX1_differentTastes_4 : decode cX1_differentTastes 4 = .ok (.iconst 0, 1) := by decide +kernel
theorem dX1_differentTastes_5 : decode cX1_differentTastes 5 = .ok (.invokestatic 51, 3) := by decide +kernel
theorem dX1_differentTastes_8 : decode cX1_differentTastes 8 = .ok (.iconst 0, 1) := by decide +kernel
theorem dX1_differentTastes_9 : decode cX1_differentTastes 9 = .ok (.istore_n 1, 1) := by decide +kernel
theorem dX1_differentTastes_10 : decode cX1_differentTastes 10 = .ok (.iconst 0, 1) := by decide +kernel
theorem dX1_differentTastes_11 : decode cX1_differentTastes 11 = .ok (.istore_n 2, 1) := by decide +kernel
theorem dX1_differentTastes_12 : decode cX1_differentTastes 12 = .ok (.iload_n 2, 1) := by decide +kernel
theorem dX1_differentTastes_13 : decode cX1_differentTastes 13 = .ok (.aload_n 0, 1) := by decide +kernel
theorem dX1_differentTastes_14 : decode cX1_differentTastes 14 = .ok (.getfield 15, 3) := by decide +kernel
theorem dX1_differentTastes_17 : decode cX1_differentTastes 17 = .ok (.if_icmp .ge 58, 3) := by decide +kernel
theorem dX1_differentTastes_20 : decode cX1_differentTastes 20 = .ok (.aload_n 0, 1) := by decide +kernel
theorem dX1_differentTastes_21 : decode cX1_differentTastes 21 = .ok (.getfield 9, 3) := by decide +kernel
theorem dX1_differentTastes_24 : decode cX1_differentTastes 24 = .ok (.iload_n 2, 1) := by decide +kernel
theorem dX1_differentTastes_25 : decode cX1_differentTastes 25 = .ok (.saload, 1) := by decide +kernel
theorem dX1_differentTastes_26 : decode cX1_differentTastes 26 = .ok (.bipush 32, 2) := by decide +kernel
theorem dX1_differentTastes_28 : decode cX1_differentTastes 28 = .ok (.idiv, 1) := by decide +kernel
theorem dX1_differentTastes_29 : decode cX1_differentTastes 29 = .ok (.istore_n 3, 1) := by decide +kernel
theorem dX1_differentTastes_30 : decode cX1_differentTastes 30 = .ok (.iconst 1, 1) := by decide +kernel
theorem dX1_differentTastes_31 : decode cX1_differentTastes 31 = .ok (.aload_n 0, 1) := by decide +kernel
theorem dX1_differentTastes_32 : decode cX1_differentTastes 32 = .ok (.getfield 9, 3) := by decide +kernel
theorem dX1_differentTastes_35 : decode cX1_differentTastes 35 = .ok (.iload_n 2, 1) := by decide +kernel
theorem dX1_differentTastes_36 : decode cX1_differentTastes 36 = .ok (.saload, 1) := by decide +kernel
theorem dX1_differentTastes_37 : decode cX1_differentTastes 37 = .ok (.bipush 32, 2) := by decide +kernel
theorem dX1_differentTastes_39 : decode cX1_differentTastes 39 = .ok (.irem, 1) := by decide +kernel
theorem dX1_differentTastes_40 : decode cX1_differentTastes 40 = .ok (.ishl, 1) := by decide +kernel
theorem dX1_differentTastes_41 : decode cX1_differentTastes 41 = .ok (.istore 4, 2) := by decide +kernel
theorem dX1_differentTastes_43 : decode cX1_differentTastes 43 = .ok (.aload_n 0, 1) := by decide +kernel
theorem dX1_differentTastes_44 : decode cX1_differentTastes 44 = .ok (.getfield 19, 3) := by decide +kernel
theorem dX1_differentTastes_47 : decode cX1_differentTastes 47 = .ok (.iload_n 3, 1) := by decide +kernel
theorem dX1_differentTastes_48 : decode cX1_differentTastes 48 = .ok (.iaload, 1) := by decide +kernel
theorem dX1_differentTastes_49 : decode cX1_differentTastes 49 = .ok (.iload 4, 2) := by decide +kernel
theorem dX1_differentTastes_51 : decode cX1_differentTastes 51 = .ok (.iand, 1) := by decide +kernel
theorem dX1_differentTastes_52 : decode cX1_differentTastes 52 = .ok (.ifCond .ne 17, 3) := by decide +kernel
theorem dX1_differentTastes_55 : decode cX1_differentTastes 55 = .ok (.aload_n 0, 1) := by decide +kernel
theorem dX1_differentTastes_56 : decode cX1_differentTastes 56 = .ok (.getfield 19, 3) := by decide +kernel
theorem dX1_differentTastes_59 : decode cX1_differentTastes 59 = .ok (.iload_n 3, 1) := by decide +kernel
theorem dX1_differentTastes_60 : decode cX1_differentTastes 60 = .ok (.dup2, 1) := by decide +kernel
theorem dX1_differentTastes_61 : decode cX1_differentTastes 61 = .ok (.iaload, 1) := by decide +kernel
theorem dX1_differentTastes_62 : decode cX1_differentTastes 62 = .ok (.iload 4, 2) := by decide +kernel
theorem dX1_differentTastes_64 : decode cX1_differentTastes 64 = .ok (.ior, 1) := by decide +kernel
theorem dX1_differentTastes_65 : decode cX1_differentTastes 65 = .ok (.iastore, 1) := by decide +kernel
theorem dX1_differentTastes_66 : decode cX1_differentTastes 66 = .ok (.iinc 1 1, 3) := by decide +kernel
theorem dX1_differentTastes_69 : decode cX1_differentTastes 69 = .ok (.iinc 2 1, 3) := by decide +kernel
theorem dX1_differentTastes_72 : decode cX1_differentTastes 72 = .ok (.goto (-60), 3) := by decide +kernel
theorem dX1_differentTastes_75 : decode cX1_differentTastes 75 = .ok (.iload_n 1, 1) := by decide +kernel
theorem dX1_differentTastes_76 : decode cX1_differentTastes 76 = .ok (.ireturn, 1) := by decide +kernel
theorem dX2_init_0 : decode cX2_init 0 = .ok (.aload_n 0, 1) := by decide +kernel
theorem dX2_init_1 : decode cX2_init 1 = .ok (.invokespecial 3, 3) := by decide +kernel
theorem dX2_init_4 : decode cX2_init 4 = .ok (.aload_n 0, 1) := by decide +kernel
theorem dX2_init_5 : decode cX2_init 5 = .ok (.iconst 5, 1) := by decide +kernel
theorem dX2_init_6 : decode cX2_init 6 = .ok (.anewarray 11, 3) := by decide +kernel
theorem dX2_init_9 : decode cX2_init 9 = .ok (.putfield 13, 3) := by decide +kernel
theorem dX2_init_12 : decode cX2_init 12 = .ok (.aload_n 0, 1) := by decide +kernel
theorem dX2_init_13 : decode cX2_init 13 = .ok (.iconst 0, 1) := by decide +kernel
theorem dX2_init_14 : decode cX2_init 14 = .ok (.putfield 17, 3) := by decide +kernel
theorem dX2_init_17 : decode cX2_init 17 = .ok (.aload_n 0, 1) := by decide +kernel
theorem dX2_init_18 : decode cX2_init 18 = .ok (.iconst 0, 1) := by decide +kernel
theorem dX2_init_19 : decode cX2_init 19 = .ok (.putfield 21, 3) := by decide +kernel
theorem dX2_init_22 : decode cX2_init 22 = .ok (.iconst 0, 1) := by decide +kernel
theorem dX2_init_23 : decode cX2_init 23 = .ok (.istore_n 1, 1) := by decide +kernel
theorem dX2_init_24 : decode cX2_init 24 = .ok (.iload_n 1, 1) := by decide +kernel
theorem dX2_init_25 : decode cX2_init 25 = .ok (.iconst 5, 1) := by decide +kernel
theorem dX2_init_26 : decode cX2_init 26 = .ok (.if_icmp .ge 22, 3) := by decide +kernel
theorem dX2_init_29 : decode cX2_init 29 = .ok (.aload_n 0, 1) := by decide +kernel
theorem dX2_init_30 : decode cX2_init 30 = .ok (.getfield 13, 3) := by decide +kernel
theorem dX2_init_33 : decode cX2_init 33 = .ok (.iload_n 1, 1) := by decide +kernel
theorem dX2_init_34 : decode cX2_init 34 = .ok (.new 11, 3) := by decide +kernel
theorem dX2_init_37 : decode cX2_init 37 = .ok (.dup, 1) := by decide +kernel
theorem dX2_init_38 : decode cX2_init 38 = .ok (.invokespecial 24, 3) := by decide +kernel
theorem dX2_init_41 : decode cX2_init 41 = .ok (.aastore, 1) := by decide +kernel
theorem dX2_init_42 : decode cX2_init 42 = .ok (.iinc 1 1, 3) := by decide +kernel
theorem dX2_init_45 : decode cX2_init 45 = .ok (.goto (-21), 3) := by decide +kernel
theorem dX2_init_48 : decode cX2_init 48 = .ok (.return_, 1) := by decide +kernel
theorem dX2_prepare_0 : decode cX2_prepare 0 = .ok (.aload_n 0, 1) := by decide +kernel
theorem dX2_prepare_1 : decode cX2_prepare 1 = .ok (.getfield 13, 3) := by decide +kernel
theorem dX2_prepare_4 : decode cX2_prepare 4 = .ok (.aload_n 0, 1) := by decide +kernel
theorem dX2_prepare_5 : decode cX2_prepare 5 = .ok (.getfield 17, 3) := by decide +kernel
theorem dX2_prepare_8 : decode cX2_prepare 8 = .ok (.aaload, 1) := by decide +kernel
theorem dX2_prepare_9 : decode cX2_prepare 9 = .ok (.aload_n 1, 1) := by decide +kernel
theorem dX2_prepare_10 : decode cX2_prepare 10 = .ok (.invokevirtual 25, 3) := by decide +kernel
theorem dX2_prepare_13 : decode cX2_prepare 13 = .ok (.return_, 1) := by decide +kernel
theorem dX2_takeBack_0 : decode cX2_takeBack 0 = .ok (.aload_n 1, 1) := by decide +kernel
theorem dX2_takeBack_1 : decode cX2_takeBack 1 = .ok (.aload_n 0, 1) := by decide +kernel
theorem dX2_takeBack_2 : decode cX2_takeBack 2 = .ok (.getfield 13, 3) := by decide +kernel
theorem dX2_takeBack_5 : decode cX2_takeBack 5 = .ok (.aload_n 0, 1) := by decide +kernel
theorem dX2_takeBack_6 : decode cX2_takeBack 6 = .ok (.getfield 17, 3) := by decide +kernel
theorem dX2_takeBack_9 : decode cX2_takeBack 9 = .ok (.aaload, 1) := by decide +kernel
theorem dX2_takeBack_10 : decode cX2_takeBack 10 = .ok (.invokevirtual 25, 3) := by decide +kernel
theorem dX2_takeBack_13 : decode cX2_takeBack 13 = .ok (.return_, 1) := by decide +kernel
theorem dX2_record_0 : decode cX2_record 0 = .ok (.aload_n 0, 1) := by decide +kernel
theorem dX2_record_1 : decode cX2_record 1 = .ok (.aload_n 0, 1) := by decide +kernel
theorem dX2_record_2 : decode cX2_record 2 = .ok (.getfield 17, 3) := by decide +kernel
theorem dX2_record_5 : decode cX2_record 5 = .ok (.iconst 1, 1) := by decide +kernel
theorem dX2_record_6 : decode cX2_record 6 = .ok (.iadd, 1) := by decide +kernel
theorem dX2_record_7 : decode cX2_record 7 = .ok (.iconst 5, 1) := by decide +kernel
theorem dX2_record_8 : decode cX2_record 8 = .ok (.irem, 1) := by decide +kernel
theorem dX2_record_9 : decode cX2_record 9 = .ok (.putfield 17, 3) := by decide +kernel
theorem dX2_record_12 : decode cX2_record 12 = .ok (.aload_n 0, 1) := by decide +kernel
theorem dX2_record_13 : decode cX2_record 13 = .ok (.aload_n 0, 1) := by decide +kernel
theorem dX2_record_14 : decode cX2_record 14 = .ok (.getfield 21, 3) := by decide +kernel
theorem dX2_record_17 : decode cX2_record 17 = .ok (.iconst 1, 1) := by decide +kernel
theorem dX2_record_18 : decode cX2_record 18 = .ok (.iadd, 1) := by decide +kernel
theorem dX2_record_19 : decode cX2_record 19 = .ok (.iconst 4, 1) := by decide +kernel
theorem dX2_record_20 : decode cX2_record 20 = .ok (.invokestatic 29, 3) := by decide +kernel
theorem dX2_record_23 : decode cX2_record 23 = .ok (.putfield 21, 3) := by decide +kernel
theorem dX2_record_26 : decode cX2_record 26 = .ok (.return_, 1) := by decide +kernel
theorem dX2_stepBack_0 : decode cX2_stepBack 0 = .ok (.aload_n 0, 1) := by decide +kernel
theorem dX2_stepBack_1 : decode cX2_stepBack 1 = .ok (.getfield 21, 3) := by decide +kernel
theorem dX2_stepBack_4 : decode cX2_stepBack 4 = .ok (.ifCond .ne 6, 3) := by decide +kernel
theorem dX2_stepBack_7 : decode cX2_stepBack 7 = .ok (.bipush (-5), 2) := by decide +kernel
theorem dX2_stepBack_9 : decode cX2_stepBack 9 = .ok (.ireturn, 1) := by decide +kernel
theorem dX2_stepBack_10 : decode cX2_stepBack 10 = .ok (.aload_n 0, 1) := by decide +kernel
theorem dX2_stepBack_11 : decode cX2_stepBack 11 = .ok (.aload_n 0, 1) := by decide +kernel
theorem dX2_stepBack_12 : decode cX2_stepBack 12 = .ok (.getfield 17, 3) := by decide +kernel
theorem dX2_stepBack_15 : decode cX2_stepBack 15 = .ok (.iconst 4, 1) := by decide +kernel
theorem dX2_stepBack_16 : decode cX2_stepBack 16 = .ok (.iadd, 1) := by decide +kernel
theorem dX2_stepBack_17 : decode cX2_stepBack 17 = .ok (.iconst 5, 1) := by decide +kernel
theorem dX2_stepBack_18 : decode cX2_stepBack 18 = .ok (.irem, 1) := by decide +kernel
theorem dX2_stepBack_19 : decode cX2_stepBack 19 = .ok (.putfield 17, 3) := by decide +kernel
theorem dX2_stepBack_22 : decode cX2_stepBack 22 = .ok (.aload_n 0, 1) := by decide +kernel
theorem dX2_stepBack_23 : decode cX2_stepBack 23 = .ok (.dup, 1) := by decide +kernel
theorem dX2_stepBack_24 : decode cX2_stepBack 24 = .ok (.getfield 21, 3) := by decide +kernel
theorem dX2_stepBack_27 : decode cX2_stepBack 27 = .ok (.iconst 1, 1) := by decide +kernel
theorem dX2_stepBack_28 : decode cX2_stepBack 28 = .ok (.isub, 1) := by decide +kernel
theorem dX2_stepBack_29 : decode cX2_stepBack 29 = .ok (.putfield 21, 3) := by decide +kernel
theorem dX2_stepBack_32 : decode cX2_stepBack 32 = .ok (.aload_n 0, 1) := by decide +kernel
theorem dX2_stepBack_33 : decode cX2_stepBack 33 = .ok (.aload_n 1, 1) := by decide +kernel
theorem dX2_stepBack_34 : decode cX2_stepBack 34 = .ok (.invokevirtual 35, 3) := by decide +kernel
theorem dX2_stepBack_37 : decode cX2_stepBack 37 = .ok (.aload_n 0, 1) := by decide +kernel
theorem dX2_stepBack_38 : decode cX2_stepBack 38 = .ok (.getfield 21, 3) := by decide +kernel
theorem dX2_stepBack_41 : decode cX2_stepBack 41 = .ok (.ireturn, 1) := by decide +kernel
theorem dX3_init_0 : decode cX3_init 0 = .ok (.aload_n 0, 1) := by decide +kernel
theorem dX3_init_1 : decode cX3_init 1 = .ok (.invokespecial 3, 3) := by decide +kernel
theorem dX3_init_4 : decode cX3_init 4 = .ok (.aload_n 0, 1) := by decide +kernel
theorem dX3_init_5 : decode cX3_init 5 = .ok (.sipush 6561, 3) := by decide +kernel
theorem dX3_init_8 : decode cX3_init 8 = .ok (.newarray .byte, 2) := by decide +kernel
theorem dX3_init_10 : decode cX3_init 10 = .ok (.putfield 9, 3) := by decide +kernel
theorem dX3_init_13 : decode cX3_init 13 = .ok (.iconst 0, 1) := by decide +kernel
theorem dX3_init_14 : decode cX3_init 14 = .ok (.istore_n 1, 1) := by decide +kernel
theorem dX3_init_15 : decode cX3_init 15 = .ok (.iload_n 1, 1) := by decide +kernel
theorem dX3_init_16 : decode cX3_init 16 = .ok (.bipush 81, 2) := by decide +kernel
theorem dX3_init_18 : decode cX3_init 18 = .ok (.if_icmp .ge 60, 3) := by decide +kernel
theorem dX3_init_21 : decode cX3_init 21 = .ok (.iconst 0, 1) := by decide +kernel
theorem dX3_init_22 : decode cX3_init 22 = .ok (.istore_n 2, 1) := by decide +kernel
theorem dX3_init_23 : decode cX3_init 23 = .ok (.iload_n 2, 1) := by decide +kernel
theorem dX3_init_24 : decode cX3_init 24 = .ok (.bipush 81, 2) := by decide +kernel
theorem dX3_init_26 : decode cX3_init 26 = .ok (.if_icmp .ge 46, 3) := by decide +kernel
theorem dX3_init_29 : decode cX3_init 29 = .ok (.aload_n 0, 1) := by decide +kernel
theorem dX3_init_30 : decode cX3_init 30 = .ok (.getfield 9, 3) := by decide +kernel
theorem dX3_init_33 : decode cX3_init 33 = .ok (.iload_n 1, 1) := by decide +kernel
theorem dX3_init_34 : decode cX3_init 34 = .ok (.iconst 3, 1) := by decide +kernel
theorem dX3_init_35 : decode cX3_init 35 = .ok (.idiv, 1) := by decide +kernel
theorem dX3_init_36 : decode cX3_init 36 = .ok (.bipush 81, 2) := by decide +kernel
theorem dX3_init_38 : decode cX3_init 38 = .ok (.imul, 1) := by decide +kernel
theorem dX3_init_39 : decode cX3_init 39 = .ok (.iload_n 2, 1) := by decide +kernel
theorem dX3_init_40 : decode cX3_init 40 = .ok (.iconst 3, 1) := by decide +kernel
theorem dX3_init_41 : decode cX3_init 41 = .ok (.idiv, 1) := by decide +kernel
theorem dX3_init_42 : decode cX3_init 42 = .ok (.iadd, 1) := by decide +kernel
theorem dX3_init_43 : decode cX3_init 43 = .ok (.baload, 1) := by decide +kernel
theorem dX3_init_44 : decode cX3_init 44 = .ok (.istore_n 3, 1) := by decide +kernel
theorem dX3_init_45 : decode cX3_init 45 = .ok (.aload_n 0, 1) := by decide +kernel
theorem dX3_init_46 : decode cX3_init 46 = .ok (.getfield 9, 3) := by decide +kernel
theorem dX3_init_49 : decode cX3_init 49 = .ok (.iload_n 1, 1) := by decide +kernel
theorem dX3_init_50 : decode cX3_init 50 = .ok (.bipush 81, 2) := by decide +kernel
theorem dX3_init_52 : decode cX3_init 52 = .ok (.imul, 1) := by decide +kernel
theorem dX3_init_53 : decode cX3_init 53 = .ok (.iload_n 2, 1) := by decide +kernel
theorem dX3_init_54 : decode cX3_init 54 = .ok (.iadd, 1) := by decide +kernel
theorem dX3_init_55 : decode cX3_init 55 = .ok (.iload_n 3, 1) := by decide +kernel
theorem dX3_init_56 : decode cX3_init 56 = .ok (.iconst 3, 1) := by decide +kernel
theorem dX3_init_57 : decode cX3_init 57 = .ok (.imul, 1) := by decide +kernel
theorem dX3_init_58 : decode cX3_init 58 = .ok (.iload_n 1, 1) := by decide +kernel
theorem dX3_init_59 : decode cX3_init 59 = .ok (.iload_n 2, 1) := by decide +kernel
theorem dX3_init_60 : decode cX3_init 60 = .ok (.iadd, 1) := by decide +kernel
theorem dX3_init_61 : decode cX3_init 61 = .ok (.iconst 3, 1) := by decide +kernel
theorem dX3_init_62 : decode cX3_init 62 = .ok (.irem, 1) := by decide +kernel
theorem dX3_init_63 : decode cX3_init 63 = .ok (.iadd, 1) := by decide +kernel
theorem dX3_init_64 : decode cX3_init 64 = .ok (.i2b, 1) := by decide +kernel
theorem dX3_init_65 : decode cX3_init 65 = .ok (.bastore, 1) := by decide +kernel
theorem dX3_init_66 : decode cX3_init 66 = .ok (.iinc 2 1, 3) := by decide +kernel
theorem dX3_init_69 : decode cX3_init 69 = .ok (.goto (-46), 3) := by decide +kernel
theorem dX3_init_72 : decode cX3_init 72 = .ok (.iinc 1 1, 3) := by decide +kernel
theorem dX3_init_75 : decode cX3_init 75 = .ok (.goto (-60), 3) := by decide +kernel
theorem dX3_init_78 : decode cX3_init 78 = .ok (.return_, 1) := by decide +kernel
theorem dX3_join_0 : decode cX3_join 0 = .ok (.aload_n 0, 1) := by decide +kernel
theorem dX3_join_1 : decode cX3_join 1 = .ok (.getfield 9, 3) := by decide +kernel
theorem dX3_join_4 : decode cX3_join 4 = .ok (.iload_n 1, 1) := by decide +kernel
theorem dX3_join_5 : decode cX3_join 5 = .ok (.bipush 81, 2) := by decide +kernel
theorem dX3_join_7 : decode cX3_join 7 = .ok (.idiv, 1) := by decide +kernel
theorem dX3_join_8 : decode cX3_join 8 = .ok (.bipush 81, 2) := by decide +kernel
theorem dX3_join_10 : decode cX3_join 10 = .ok (.imul, 1) := by decide +kernel
theorem dX3_join_11 : decode cX3_join 11 = .ok (.iload_n 2, 1) := by decide +kernel
theorem dX3_join_12 : decode cX3_join 12 = .ok (.bipush 81, 2) := by decide +kernel
theorem dX3_join_14 : decode cX3_join 14 = .ok (.idiv, 1) := by decide +kernel
theorem dX3_join_15 : decode cX3_join 15 = .ok (.iadd, 1) := by decide +kernel
theorem dX3_join_16 : decode cX3_join 16 = .ok (.baload, 1) := by decide +kernel
theorem dX3_join_17 : decode cX3_join 17 = .ok (.istore_n 3, 1) := by decide +kernel
theorem dX3_join_18 : decode cX3_join 18 = .ok (.aload_n 0, 1) := by decide +kernel
theorem dX3_join_19 : decode cX3_join 19 = .ok (.getfield 9, 3) := by decide +kernel
theorem dX3_join_22 : decode cX3_join 22 = .ok (.iload_n 1, 1) := by decide +kernel
theorem dX3_join_23 : decode cX3_join 23 = .ok (.bipush 81, 2) := by decide +kernel
theorem dX3_join_25 : decode cX3_join 25 = .ok (.irem, 1) := by decide +kernel
theorem dX3_join_26 : decode cX3_join 26 = .ok (.bipush 81, 2) := by decide +kernel
theorem dX3_join_28 : decode cX3_join 28 = .ok (.imul, 1) := by decide +kernel
theorem dX3_join_29 : decode cX3_join 29 = .ok (.iload_n 2, 1) := by decide +kernel
theorem dX3_join_30 : decode cX3_join 30 = .ok (.bipush 81, 2) := by decide +kernel
theorem dX3_join_32 : decode cX3_join 32 = .ok (.irem, 1) := by decide +kernel
theorem dX3_join_33 : decode cX3_join 33 = .ok (.iadd, 1) := by decide +kernel
theorem dX3_join_34 : decode cX3_join 34 = .ok (.baload, 1) := by decide +kernel
theorem dX3_join_35 : decode cX3_join 35 = .ok (.istore 4, 2) := by decide +kernel
theorem dX3_join_37 : decode cX3_join 37 = .ok (.iload_n 3, 1) := by decide +kernel
theorem dX3_join_38 : decode cX3_join 38 = .ok (.bipush 81, 2) := by decide +kernel
theorem dX3_join_40 : decode cX3_join 40 = .ok (.imul, 1) := by decide +kernel
theorem dX3_join_41 : decode cX3_join 41 = .ok (.iload 4, 2) := by decide +kernel
theorem dX3_join_43 : decode cX3_join 43 = .ok (.iadd, 1) := by decide +kernel
theorem dX3_join_44 : decode cX3_join 44 = .ok (.ireturn, 1) := by decide +kernel
theorem dX3_twice_0 : decode cX3_twice 0 = .ok (.aload_n 0, 1) := by decide +kernel
theorem dX3_twice_1 : decode cX3_twice 1 = .ok (.iload_n 1, 1) := by decide +kernel
theorem dX3_twice_2 : decode cX3_twice 2 = .ok (.iload_n 1, 1) := by decide +kernel
theorem dX3_twice_3 : decode cX3_twice 3 = .ok (.invokevirtual 15, 3) := by decide +kernel
theorem dX3_twice_6 : decode cX3_twice 6 = .ok (.ireturn, 1) := by decide +kernel
theorem dX4_init_0 : decode cX4_init 0 = .ok (.aload_n 0, 1) := by decide +kernel
theorem dX4_init_1 : decode cX4_init 1 = .ok (.invokespecial 3, 3) := by decide +kernel
theorem dX4_init_4 : decode cX4_init 4 = .ok (.aload_n 0, 1) := by decide +kernel
theorem dX4_init_5 : decode cX4_init 5 = .ok (.bipush 12, 2) := by decide +kernel
theorem dX4_init_7 : decode cX4_init 7 = .ok (.newarray .int, 2) := by decide +kernel
theorem dX4_init_9 : decode cX4_init 9 = .ok (.putfield 9, 3) := by decide +kernel
theorem dX4_init_12 : decode cX4_init 12 = .ok (.aload_n 0, 1) := by decide +kernel
theorem dX4_init_13 : decode cX4_init 13 = .ok (.bipush 12, 2) := by decide +kernel
theorem dX4_init_15 : decode cX4_init 15 = .ok (.newarray .int, 2) := by decide +kernel
theorem dX4_init_17 : decode cX4_init 17 = .ok (.putfield 15, 3) := by decide +kernel
theorem dX4_init_20 : decode cX4_init 20 = .ok (.aload_n 0, 1) := by decide +kernel
theorem dX4_init_21 : decode cX4_init 21 = .ok (.iconst 0, 1) := by decide +kernel
theorem dX4_init_22 : decode cX4_init 22 = .ok (.putfield 18, 3) := by decide +kernel
theorem dX4_init_25 : decode cX4_init 25 = .ok (.aload_n 0, 1) := by decide +kernel
theorem dX4_init_26 : decode cX4_init 26 = .ok (.iconst 0, 1) := by decide +kernel
theorem dX4_init_27 : decode cX4_init 27 = .ok (.putfield 22, 3) := by decide +kernel
theorem dX4_init_30 : decode cX4_init 30 = .ok (.aload_n 0, 1) := by decide +kernel
theorem dX4_init_31 : decode cX4_init 31 = .ok (.bipush 8, 2) := by decide +kernel
theorem dX4_init_33 : decode cX4_init 33 = .ok (.newarray .int, 2) := by decide +kernel
theorem dX4_init_35 : decode cX4_init 35 = .ok (.putfield 25, 3) := by decide +kernel
theorem dX4_init_38 : decode cX4_init 38 = .ok (.aload_n 0, 1) := by decide +kernel
theorem dX4_init_39 : decode cX4_init 39 = .ok (.iconst 0, 1) := by decide +kernel
theorem dX4_init_40 : decode cX4_init 40 = .ok (.putfield 28, 3) := by decide +kernel
theorem dX4_init_43 : decode cX4_init 43 = .ok (.aload_n 0, 1) := by decide +kernel
theorem dX4_init_44 : decode cX4_init 44 = .ok (.bipush 8, 2) := by decide +kernel
theorem dX4_init_46 : decode cX4_init 46 = .ok (.newarray .int, 2) := by decide +kernel
theorem dX4_init_48 : decode cX4_init 48 = .ok (.putfield 31, 3) := by decide +kernel
theorem dX4_init_51 : decode cX4_init 51 = .ok (.aload_n 0, 1) := by decide +kernel
theorem dX4_init_52 : decode cX4_init 52 = .ok (.bipush 8, 2) := by decide +kernel
theorem dX4_init_54 : decode cX4_init 54 = .ok (.newarray .int, 2) := by decide +kernel
theorem dX4_init_56 : decode cX4_init 56 = .ok (.putfield 34, 3) := by decide +kernel
theorem dX4_init_59 : decode cX4_init 59 = .ok (.aload_n 0, 1) := by decide +kernel
theorem dX4_init_60 : decode cX4_init 60 = .ok (.iconst 0, 1) := by decide +kernel
theorem dX4_init_61 : decode cX4_init 61 = .ok (.putfield 37, 3) := by decide +kernel
theorem dX4_init_64 : decode cX4_init 64 = .ok (.aload_n 0, 1) := by decide +kernel
theorem dX4_init_65 : decode cX4_init 65 = .ok (.bipush 8, 2) := by decide +kernel
theorem dX4_init_67 : decode cX4_init 67 = .ok (.newarray .int, 2) := by decide +kernel
theorem dX4_init_69 : decode cX4_init 69 = .ok (.putfield 40, 3) := by decide +kernel
theorem dX4_init_72 : decode cX4_init 72 = .ok (.iconst 0, 1) := by decide +kernel
theorem dX4_init_73 : decode cX4_init 73 = .ok (.istore_n 1, 1) := by decide +kernel
theorem dX4_init_74 : decode cX4_init 74 = .ok (.iload_n 1, 1) := by decide +kernel
theorem dX4_init_75 : decode cX4_init 75 = .ok (.bipush 8, 2) := by decide +kernel
theorem dX4_init_77 : decode cX4_init 77 = .ok (.if_icmp .ge 18, 3) := by decide +kernel
theorem dX4_init_80 : decode cX4_init 80 = .ok (.aload_n 0, 1) := by decide +kernel
theorem dX4_init_81 : decode cX4_init 81 = .ok (.getfield 31, 3) := by decide +kernel
theorem dX4_init_84 : decode cX4_init 84 = .ok (.iload_n 1, 1) := by decide +kernel
theorem dX4_init_85 : decode cX4_init 85 = .ok (.iload_n 1, 1) := by decide +kernel
theorem dX4_init_86 : decode cX4_init 86 = .ok (.iconst 1, 1) := by decide +kernel
theorem dX4_init_87 : decode cX4_init 87 = .ok (.iadd, 1) := by decide +kernel
theorem dX4_init_88 : decode cX4_init 88 = .ok (.iastore, 1) := by decide +kernel
theorem dX4_init_89 : decode cX4_init 89 = .ok (.iinc 1 1, 3) := by decide +kernel
theorem dX4_init_92 : decode cX4_init 92 = .ok (.goto (-18), 3) := by decide +kernel
theorem dX4_init_95 : decode cX4_init 95 = .ok (.return_, 1) := by decide +kernel
theorem dX4_copyFrom_0 : decode cX4_copyFrom 0 = .ok (.aload_n 1, 1) := by decide +kernel
theorem dX4_copyFrom_1 : decode cX4_copyFrom 1 = .ok (.getfield 9, 3) := by decide +kernel
theorem dX4_copyFrom_4 : decode cX4_copyFrom 4 = .ok (.iconst 0, 1) := by decide +kernel
theorem dX4_copyFrom_5 : decode cX4_copyFrom 5 = .ok (.aload_n 0, 1) := by decide +kernel
theorem dX4_copyFrom_6 : decode cX4_copyFrom 6 = .ok (.getfield 9, 3) := by decide +kernel
theorem dX4_copyFrom_9 : decode cX4_copyFrom 9 = .ok (.iconst 0, 1) := by decide +kernel
theorem dX4_copyFrom_10 : decode cX4_copyFrom 10 = .ok (.bipush 12, 2) := by decide +kernel
theorem dX4_copyFrom_12 : decode cX4_copyFrom 12 = .ok (.invokestatic 43, 3) := by decide +kernel
theorem dX4_copyFrom_15 : decode cX4_copyFrom 15 = .ok (.aload_n 1, 1) := by decide +kernel
theorem dX4_copyFrom_16 : decode cX4_copyFrom 16 = .ok (.getfield 15, 3) := by decide +kernel
theorem dX4_copyFrom_19 : decode cX4_copyFrom 19 = .ok (.iconst 0, 1) := by decide +kernel
theorem dX4_copyFrom_20 : decode cX4_copyFrom 20 = .ok (.aload_n 0, 1) := by decide +kernel
theorem dX4_copyFrom_21 : decode cX4_copyFrom 21 = .ok (.getfield 15, 3) := by decide +kernel
theorem dX4_copyFrom_24 : decode cX4_copyFrom 24 = .ok (.iconst 0, 1) := by decide +kernel
theorem dX4_copyFrom_25 : decode cX4_copyFrom 25 = .ok (.bipush 12, 2) := by decide +kernel
theorem dX4_copyFrom_27 : decode cX4_copyFrom 27 = .ok (.invokestatic 43, 3) := by decide +kernel
theorem dX4_copyFrom_30 : decode cX4_copyFrom 30 = .ok (.aload_n 0, 1) := by decide +kernel
theorem dX4_copyFrom_31 : decode cX4_copyFrom 31 = .ok (.aload_n 1, 1) := by decide +kernel
theorem dX4_copyFrom_32 : decode cX4_copyFrom 32 = .ok (.getfield 18, 3) := by decide +kernel
theorem dX4_copyFrom_35 : decode cX4_copyFrom 35 = .ok (.putfield 18, 3) := by decide +kernel
theorem dX4_copyFrom_38 : decode cX4_copyFrom 38 = .ok (.aload_n 0, 1) := by decide +kernel
theorem dX4_copyFrom_39 : decode cX4_copyFrom 39 = .ok (.aload_n 1, 1) := by decide +kernel
theorem dX4_copyFrom_40 : decode cX4_copyFrom 40 = .ok (.getfield 22, 3) := by decide +kernel
theorem dX4_copyFrom_43 : decode cX4_copyFrom 43 = .ok (.putfield 22, 3) := by decide +kernel
theorem dX4_copyFrom_46 : decode cX4_copyFrom 46 = .ok (.aload_n 1, 1) := by decide +kernel
theorem dX4_copyFrom_47 : decode cX4_copyFrom 47 = .ok (.getfield 25, 3) := by decide +kernel
theorem dX4_copyFrom_50 : decode cX4_copyFrom 50 = .ok (.iconst 0, 1) := by decide +kernel
theorem dX4_copyFrom_51 : decode cX4_copyFrom 51 = .ok (.aload_n 0, 1) := by decide +kernel
theorem dX4_copyFrom_52 : decode cX4_copyFrom 52 = .ok (.getfield 25, 3) := by decide +kernel
theorem dX4_copyFrom_55 : decode cX4_copyFrom 55 = .ok (.iconst 0, 1) := by decide +kernel
theorem dX4_copyFrom_56 : decode cX4_copyFrom 56 = .ok (.bipush 8, 2) := by decide +kernel
theorem dX4_copyFrom_58 : decode cX4_copyFrom 58 = .ok (.invokestatic 43, 3) := by decide +kernel
theorem dX4_copyFrom_61 : decode cX4_copyFrom 61 = .ok (.aload_n 0, 1) := by decide +kernel
theorem dX4_copyFrom_62 : decode cX4_copyFrom 62 = .ok (.aload_n 1, 1) := by decide +kernel
theorem dX4_copyFrom_63 : decode cX4_copyFrom 63 = .ok (.getfield 28, 3) := by decide +kernel
theorem dX4_copyFrom_66 : decode cX4_copyFrom 66 = .ok (.putfield 28, 3) := by decide +kernel
theorem dX4_copyFrom_69 : decode cX4_copyFrom 69 = .ok (.aload_n 1, 1) := by decide +kernel
theorem dX4_copyFrom_70 : decode cX4_copyFrom 70 = .ok (.getfield 31, 3) := by decide +kernel
theorem dX4_copyFrom_73 : decode cX4_copyFrom 73 = .ok (.iconst 0, 1) := by decide +kernel
theorem dX4_copyFrom_74 : decode cX4_copyFrom 74 = .ok (.aload_n 0, 1) := by decide +kernel
theorem dX4_copyFrom_75 : decode cX4_copyFrom 75 = .ok (.getfield 31, 3) := by decide +kernel
theorem dX4_copyFrom_78 : decode cX4_copyFrom 78 = .ok (.iconst 0, 1) := by decide +kernel
theorem dX4_copyFrom_79 : decode cX4_copyFrom 79 = .ok (.bipush 8, 2) := by decide +kernel
theorem dX4_copyFrom_81 : decode cX4_copyFrom 81 = .ok (.invokestatic 43, 3) := by decide +kernel
theorem dX4_copyFrom_84 : decode cX4_copyFrom 84 = .ok (.aload_n 1, 1) := by decide +kernel
theorem dX4_copyFrom_85 : decode cX4_copyFrom 85 = .ok (.getfield 34, 3) := by decide +kernel
theorem dX4_copyFrom_88 : decode cX4_copyFrom 88 = .ok (.iconst 0, 1) := by decide +kernel
theorem dX4_copyFrom_89 : decode cX4_copyFrom 89 = .ok (.aload_n 0, 1) := by decide +kernel
theorem dX4_copyFrom_90 : decode cX4_copyFrom 90 = .ok (.getfield 34, 3) := by decide +kernel
theorem dX4_copyFrom_93 : decode cX4_copyFrom 93 = .ok (.iconst 0, 1) := by decide +kernel
theorem dX4_copyFrom_94 : decode cX4_copyFrom 94 = .ok (.bipush 8, 2) := by decide +kernel
theorem dX4_copyFrom_96 : decode cX4_copyFrom 96 = .ok (.invokestatic 43, 3) := by decide +kernel
theorem dX4_copyFrom_99 : decode cX4_copyFrom 99 = .ok (.aload_n 0, 1) := by decide +kernel
theorem dX4_copyFrom_100 : decode cX4_copyFrom 100 = .ok (.aload_n 1, 1) := by decide +kernel
theorem dX4_copyFrom_101 : decode cX4_copyFrom 101 = .ok (.getfield 37, 3) := by decide +kernel
theorem dX4_copyFrom_104 : decode cX4_copyFrom 104 = .ok (.putfield 37, 3) := by decide +kernel
theorem dX4_copyFrom_107 : decode cX4_copyFrom 107 = .ok (.aload_n 1, 1) := by decide +kernel
theorem dX4_copyFrom_108 : decode cX4_copyFrom 108 = .ok (.getfield 40, 3) := by decide +kernel
theorem dX4_copyFrom_111 : decode cX4_copyFrom 111 = .ok (.iconst 0, 1) := by decide +kernel
theorem dX4_copyFrom_112 : decode cX4_copyFrom 112 = .ok (.aload_n 0, 1) := by decide +kernel
theorem dX4_copyFrom_113 : decode cX4_copyFrom 113 = .ok (.getfield 40, 3) := by decide +kernel
theorem dX4_copyFrom_116 : decode cX4_copyFrom 116 = .ok (.iconst 0, 1) := by decide +kernel
theorem dX4_copyFrom_117 : decode cX4_copyFrom 117 = .ok (.bipush 8, 2) := by decide +kernel
theorem dX4_copyFrom_119 : decode cX4_copyFrom 119 = .ok (.invokestatic 43, 3) := by decide +kernel
theorem dX4_copyFrom_122 : decode cX4_copyFrom 122 = .ok (.return_, 1) := by decide +kernel
theorem dX4_placeOf_0 : decode cX4_placeOf 0 = .ok (.iconst 0, 1) := by decide +kernel
theorem dX4_placeOf_1 : decode cX4_placeOf 1 = .ok (.istore_n 2, 1) := by decide +kernel
theorem dX4_placeOf_2 : decode cX4_placeOf 2 = .ok (.iload_n 2, 1) := by decide +kernel
theorem dX4_placeOf_3 : decode cX4_placeOf 3 = .ok (.aload_n 0, 1) := by decide +kernel
theorem dX4_placeOf_4 : decode cX4_placeOf 4 = .ok (.getfield 18, 3) := by decide +kernel
theorem dX4_placeOf_7 : decode cX4_placeOf 7 = .ok (.if_icmp .ge 21, 3) := by decide +kernel
theorem dX4_placeOf_10 : decode cX4_placeOf 10 = .ok (.aload_n 0, 1) := by decide +kernel
theorem dX4_placeOf_11 : decode cX4_placeOf 11 = .ok (.getfield 9, 3) := by decide +kernel
theorem dX4_placeOf_14 : decode cX4_placeOf 14 = .ok (.iload_n 2, 1) := by decide +kernel
theorem dX4_placeOf_15 : decode cX4_placeOf 15 = .ok (.iaload, 1) := by decide +kernel
theorem dX4_placeOf_16 : decode cX4_placeOf 16 = .ok (.iload_n 1, 1) := by decide +kernel
theorem dX4_placeOf_17 : decode cX4_placeOf 17 = .ok (.if_icmp .ne 5, 3) := by decide +kernel
theorem dX4_placeOf_20 : decode cX4_placeOf 20 = .ok (.iload_n 2, 1) := by decide +kernel
theorem dX4_placeOf_21 : decode cX4_placeOf 21 = .ok (.ireturn, 1) := by decide +kernel
theorem dX4_placeOf_22 : decode cX4_placeOf 22 = .ok (.iinc 2 1, 3) := by decide +kernel
theorem dX4_placeOf_25 : decode cX4_placeOf 25 = .ok (.goto (-23), 3) := by decide +kernel
theorem dX4_placeOf_28 : decode cX4_placeOf 28 = .ok (.iconst (-1), 1) := by decide +kernel
theorem dX4_placeOf_29 : decode cX4_placeOf 29 = .ok (.ireturn, 1) := by decide +kernel
theorem dX4_hasRoomForJar_0 : decode cX4_hasRoomForJar 0 = .ok (.aload_n 0, 1) := by decide +kernel
theorem dX4_hasRoomForJar_1 : decode cX4_hasRoomForJar 1 = .ok (.getfield 18, 3) := by decide +kernel
theorem dX4_hasRoomForJar_4 : decode cX4_hasRoomForJar 4 = .ok (.bipush 12, 2) := by decide +kernel
theorem dX4_hasRoomForJar_6 : decode cX4_hasRoomForJar 6 = .ok (.if_icmp .ge 17, 3) := by decide +kernel
theorem dX4_hasRoomForJar_9 : decode cX4_hasRoomForJar 9 = .ok (.aload_n 0, 1) := by decide +kernel
theorem dX4_hasRoomForJar_10 : decode cX4_hasRoomForJar 10 = .ok (.getfield 22, 3) := by decide +kernel
theorem dX4_hasRoomForJar_13 : decode cX4_hasRoomForJar 13 = .ok (.sipush 200, 3) := by decide +kernel
theorem dX4_hasRoomForJar_16 : decode cX4_hasRoomForJar 16 = .ok (.if_icmp .ge 7, 3) := by decide +kernel
theorem dX4_hasRoomForJar_19 : decode cX4_hasRoomForJar 19 = .ok (.iconst 1, 1) := by decide +kernel
theorem dX4_hasRoomForJar_20 : decode cX4_hasRoomForJar 20 = .ok (.goto 4, 3) := by decide +kernel
theorem dX4_hasRoomForJar_23 : decode cX4_hasRoomForJar 23 = .ok (.iconst 0, 1) := by decide +kernel
theorem dX4_hasRoomForJar_24 : decode cX4_hasRoomForJar 24 = .ok (.ireturn, 1) := by decide +kernel
theorem dX4_addJar_0 : decode cX4_addJar 0 = .ok (.aload_n 0, 1) := by decide +kernel
theorem dX4_addJar_1 : decode cX4_addJar 1 = .ok (.getfield 22, 3) := by decide +kernel
theorem dX4_addJar_4 : decode cX4_addJar 4 = .ok (.istore_n 2, 1) := by decide +kernel
theorem dX4_addJar_5 : decode cX4_addJar 5 = .ok (.aload_n 0, 1) := by decide +kernel
theorem dX4_addJar_6 : decode cX4_addJar 6 = .ok (.getfield 9, 3) := by decide +kernel
theorem dX4_addJar_9 : decode cX4_addJar 9 = .ok (.aload_n 0, 1) := by decide +kernel
theorem dX4_addJar_10 : decode cX4_addJar 10 = .ok (.getfield 18, 3) := by decide +kernel
theorem dX4_addJar_13 : decode cX4_addJar 13 = .ok (.iload_n 2, 1) := by decide +kernel
theorem dX4_addJar_14 : decode cX4_addJar 14 = .ok (.iastore, 1) := by decide +kernel
theorem dX4_addJar_15 : decode cX4_addJar 15 = .ok (.aload_n 0, 1) := by decide +kernel
theorem dX4_addJar_16 : decode cX4_addJar 16 = .ok (.getfield 15, 3) := by decide +kernel
theorem dX4_addJar_19 : decode cX4_addJar 19 = .ok (.aload_n 0, 1) := by decide +kernel
theorem dX4_addJar_20 : decode cX4_addJar 20 = .ok (.getfield 18, 3) := by decide +kernel
theorem dX4_addJar_23 : decode cX4_addJar 23 = .ok (.iload_n 1, 1) := by decide +kernel
theorem dX4_addJar_24 : decode cX4_addJar 24 = .ok (.iastore, 1) := by decide +kernel
theorem dX4_addJar_25 : decode cX4_addJar 25 = .ok (.aload_n 0, 1) := by decide +kernel
theorem dX4_addJar_26 : decode cX4_addJar 26 = .ok (.dup, 1) := by decide +kernel
theorem dX4_addJar_27 : decode cX4_addJar 27 = .ok (.getfield 18, 3) := by decide +kernel
theorem dX4_addJar_30 : decode cX4_addJar 30 = .ok (.iconst 1, 1) := by decide +kernel
theorem dX4_addJar_31 : decode cX4_addJar 31 = .ok (.iadd, 1) := by decide +kernel
theorem dX4_addJar_32 : decode cX4_addJar 32 = .ok (.putfield 18, 3) := by decide +kernel
theorem dX4_addJar_35 : decode cX4_addJar 35 = .ok (.aload_n 0, 1) := by decide +kernel
theorem dX4_addJar_36 : decode cX4_addJar 36 = .ok (.dup, 1) := by decide +kernel
theorem dX4_addJar_37 : decode cX4_addJar 37 = .ok (.getfield 22, 3) := by decide +kernel
theorem dX4_addJar_40 : decode cX4_addJar 40 = .ok (.iconst 1, 1) := by decide +kernel
theorem dX4_addJar_41 : decode cX4_addJar 41 = .ok (.iadd, 1) := by decide +kernel
theorem dX4_addJar_42 : decode cX4_addJar 42 = .ok (.putfield 22, 3) := by decide +kernel
theorem dX4_addJar_45 : decode cX4_addJar 45 = .ok (.iload_n 2, 1) := by decide +kernel
theorem dX4_addJar_46 : decode cX4_addJar 46 = .ok (.ireturn, 1) := by decide +kernel
theorem dX4_removeJar_0 : decode cX4_removeJar 0 = .ok (.aload_n 0, 1) := by decide +kernel
theorem dX4_removeJar_1 : decode cX4_removeJar 1 = .ok (.dup, 1) := by decide +kernel
theorem dX4_removeJar_2 : decode cX4_removeJar 2 = .ok (.getfield 18, 3) := by decide +kernel
theorem dX4_removeJar_5 : decode cX4_removeJar 5 = .ok (.iconst 1, 1) := by decide +kernel
theorem dX4_removeJar_6 : decode cX4_removeJar 6 = .ok (.isub, 1) := by decide +kernel
theorem dX4_removeJar_7 : decode cX4_removeJar 7 = .ok (.putfield 18, 3) := by decide +kernel
theorem dX4_removeJar_10 : decode cX4_removeJar 10 = .ok (.iload_n 1, 1) := by decide +kernel
theorem dX4_removeJar_11 : decode cX4_removeJar 11 = .ok (.istore_n 2, 1) := by decide +kernel
theorem dX4_removeJar_12 : decode cX4_removeJar 12 = .ok (.iload_n 2, 1) := by decide +kernel
theorem dX4_removeJar_13 : decode cX4_removeJar 13 = .ok (.aload_n 0, 1) := by decide +kernel
theorem dX4_removeJar_14 : decode cX4_removeJar 14 = .ok (.getfield 18, 3) := by decide +kernel
theorem dX4_removeJar_17 : decode cX4_removeJar 17 = .ok (.if_icmp .ge 37, 3) := by decide +kernel
theorem dX4_removeJar_20 : decode cX4_removeJar 20 = .ok (.aload_n 0, 1) := by decide +kernel
theorem dX4_removeJar_21 : decode cX4_removeJar 21 = .ok (.getfield 9, 3) := by decide +kernel
theorem dX4_removeJar_24 : decode cX4_removeJar 24 = .ok (.iload_n 2, 1) := by decide +kernel
theorem dX4_removeJar_25 : decode cX4_removeJar 25 = .ok (.aload_n 0, 1) := by decide +kernel
theorem dX4_removeJar_26 : decode cX4_removeJar 26 = .ok (.getfield 9, 3) := by decide +kernel
theorem dX4_removeJar_29 : decode cX4_removeJar 29 = .ok (.iload_n 2, 1) := by decide +kernel
theorem dX4_removeJar_30 : decode cX4_removeJar 30 = .ok (.iconst 1, 1) := by decide +kernel
theorem dX4_removeJar_31 : decode cX4_removeJar 31 = .ok (.iadd, 1) := by decide +kernel
theorem dX4_removeJar_32 : decode cX4_removeJar 32 = .ok (.iaload, 1) := by decide +kernel
theorem dX4_removeJar_33 : decode cX4_removeJar 33 = .ok (.iastore, 1) := by decide +kernel
theorem dX4_removeJar_34 : decode cX4_removeJar 34 = .ok (.aload_n 0, 1) := by decide +kernel
theorem dX4_removeJar_35 : decode cX4_removeJar 35 = .ok (.getfield 15, 3) := by decide +kernel
theorem dX4_removeJar_38 : decode cX4_removeJar 38 = .ok (.iload_n 2, 1) := by decide +kernel
theorem dX4_removeJar_39 : decode cX4_removeJar 39 = .ok (.aload_n 0, 1) := by decide +kernel
theorem dX4_removeJar_40 : decode cX4_removeJar 40 = .ok (.getfield 15, 3) := by decide +kernel
theorem dX4_removeJar_43 : decode cX4_removeJar 43 = .ok (.iload_n 2, 1) := by decide +kernel
theorem dX4_removeJar_44 : decode cX4_removeJar 44 = .ok (.iconst 1, 1) := by decide +kernel
theorem dX4_removeJar_45 : decode cX4_removeJar 45 = .ok (.iadd, 1) := by decide +kernel
theorem dX4_removeJar_46 : decode cX4_removeJar 46 = .ok (.iaload, 1) := by decide +kernel
theorem dX4_removeJar_47 : decode cX4_removeJar 47 = .ok (.iastore, 1) := by decide +kernel
theorem dX4_removeJar_48 : decode cX4_removeJar 48 = .ok (.iinc 2 1, 3) := by decide +kernel
theorem dX4_removeJar_51 : decode cX4_removeJar 51 = .ok (.goto (-39), 3) := by decide +kernel
theorem dX4_removeJar_54 : decode cX4_removeJar 54 = .ok (.return_, 1) := by decide +kernel
theorem dX4_removeRule_0 : decode cX4_removeRule 0 = .ok (.aload_n 0, 1) := by decide +kernel
theorem dX4_removeRule_1 : decode cX4_removeRule 1 = .ok (.dup, 1) := by decide +kernel
theorem dX4_removeRule_2 : decode cX4_removeRule 2 = .ok (.getfield 28, 3) := by decide +kernel
theorem dX4_removeRule_5 : decode cX4_removeRule 5 = .ok (.iconst 1, 1) := by decide +kernel
theorem dX4_removeRule_6 : decode cX4_removeRule 6 = .ok (.isub, 1) := by decide +kernel
theorem dX4_removeRule_7 : decode cX4_removeRule 7 = .ok (.putfield 28, 3) := by decide +kernel
theorem dX4_removeRule_10 : decode cX4_removeRule 10 = .ok (.iload_n 1, 1) := by decide +kernel
theorem dX4_removeRule_11 : decode cX4_removeRule 11 = .ok (.istore_n 2, 1) := by decide +kernel
theorem dX4_removeRule_12 : decode cX4_removeRule 12 = .ok (.iload_n 2, 1) := by decide +kernel
theorem dX4_removeRule_13 : decode cX4_removeRule 13 = .ok (.aload_n 0, 1) := by decide +kernel
theorem dX4_removeRule_14 : decode cX4_removeRule 14 = .ok (.getfield 28, 3) := by decide +kernel
theorem dX4_removeRule_17 : decode cX4_removeRule 17 = .ok (.if_icmp .ge 23, 3) := by decide +kernel
theorem dX4_removeRule_20 : decode cX4_removeRule 20 = .ok (.aload_n 0, 1) := by decide +kernel
theorem dX4_removeRule_21 : decode cX4_removeRule 21 = .ok (.getfield 25, 3) := by decide +kernel
theorem dX4_removeRule_24 : decode cX4_removeRule 24 = .ok (.iload_n 2, 1) := by decide +kernel
theorem dX4_removeRule_25 : decode cX4_removeRule 25 = .ok (.aload_n 0, 1) := by decide +kernel
theorem dX4_removeRule_26 : decode cX4_removeRule 26 = .ok (.getfield 25, 3) := by decide +kernel
theorem dX4_removeRule_29 : decode cX4_removeRule 29 = .ok (.iload_n 2, 1) := by decide +kernel
theorem dX4_removeRule_30 : decode cX4_removeRule 30 = .ok (.iconst 1, 1) := by decide +kernel
theorem dX4_removeRule_31 : decode cX4_removeRule 31 = .ok (.iadd, 1) := by decide +kernel
theorem dX4_removeRule_32 : decode cX4_removeRule 32 = .ok (.iaload, 1) := by decide +kernel
theorem dX4_removeRule_33 : decode cX4_removeRule 33 = .ok (.iastore, 1) := by decide +kernel
theorem dX4_removeRule_34 : decode cX4_removeRule 34 = .ok (.iinc 2 1, 3) := by decide +kernel
theorem dX4_removeRule_37 : decode cX4_removeRule 37 = .ok (.goto (-25), 3) := by decide +kernel
theorem dX4_removeRule_40 : decode cX4_removeRule 40 = .ok (.return_, 1) := by decide +kernel
theorem dX4_removeFirstWant_0 : decode cX4_removeFirstWant 0 = .ok (.aload_n 0, 1) := by decide +kernel
theorem dX4_removeFirstWant_1 : decode cX4_removeFirstWant 1 = .ok (.getfield 34, 3) := by decide +kernel
theorem dX4_removeFirstWant_4 : decode cX4_removeFirstWant 4 = .ok (.iconst 0, 1) := by decide +kernel
theorem dX4_removeFirstWant_5 : decode cX4_removeFirstWant 5 = .ok (.iaload, 1) := by decide +kernel
theorem dX4_removeFirstWant_6 : decode cX4_removeFirstWant 6 = .ok (.istore_n 1, 1) := by decide +kernel
theorem dX4_removeFirstWant_7 : decode cX4_removeFirstWant 7 = .ok (.aload_n 0, 1) := by decide +kernel
theorem dX4_removeFirstWant_8 : decode cX4_removeFirstWant 8 = .ok (.dup, 1) := by decide +kernel
theorem dX4_removeFirstWant_9 : decode cX4_removeFirstWant 9 = .ok (.getfield 37, 3) := by decide +kernel
theorem dX4_removeFirstWant_12 : decode cX4_removeFirstWant 12 = .ok (.iconst 1, 1) := by decide +kernel
theorem dX4_removeFirstWant_13 : decode cX4_removeFirstWant 13 = .ok (.isub, 1) := by decide +kernel
theorem dX4_removeFirstWant_14 : decode cX4_removeFirstWant 14 = .ok (.putfield 37, 3) := by decide +kernel
theorem dX4_removeFirstWant_17 : decode cX4_removeFirstWant 17 = .ok (.iconst 0, 1) := by decide +kernel
theorem dX4_removeFirstWant_18 : decode cX4_removeFirstWant 18 = .ok (.istore_n 2, 1) := by decide +kernel
theorem dX4_removeFirstWant_19 : decode cX4_removeFirstWant 19 = .ok (.iload_n 2, 1) := by decide +kernel
theorem dX4_removeFirstWant_20 : decode cX4_removeFirstWant 20 = .ok (.aload_n 0, 1) := by decide +kernel
theorem dX4_removeFirstWant_21 : decode cX4_removeFirstWant 21 = .ok (.getfield 37, 3) := by decide +kernel
theorem dX4_removeFirstWant_24 : decode cX4_removeFirstWant 24 = .ok (.if_icmp .ge 23, 3) := by decide +kernel
theorem dX4_removeFirstWant_27 : decode cX4_removeFirstWant 27 = .ok (.aload_n 0, 1) := by decide +kernel
theorem dX4_removeFirstWant_28 : decode cX4_removeFirstWant 28 = .ok (.getfield 34, 3) := by decide +kernel
theorem dX4_removeFirstWant_31 : decode cX4_removeFirstWant 31 = .ok (.iload_n 2, 1) := by decide +kernel
theorem dX4_removeFirstWant_32 : decode cX4_removeFirstWant 32 = .ok (.aload_n 0, 1) := by decide +kernel
theorem dX4_removeFirstWant_33 : decode cX4_removeFirstWant 33 = .ok (.getfield 34, 3) := by decide +kernel
theorem dX4_removeFirstWant_36 : decode cX4_removeFirstWant 36 = .ok (.iload_n 2, 1) := by decide +kernel
theorem dX4_removeFirstWant_37 : decode cX4_removeFirstWant 37 = .ok (.iconst 1, 1) := by decide +kernel
theorem dX4_removeFirstWant_38 : decode cX4_removeFirstWant 38 = .ok (.iadd, 1) := by decide +kernel
theorem dX4_removeFirstWant_39 : decode cX4_removeFirstWant 39 = .ok (.iaload, 1) := by decide +kernel
theorem dX4_removeFirstWant_40 : decode cX4_removeFirstWant 40 = .ok (.iastore, 1) := by decide +kernel
theorem dX4_removeFirstWant_41 : decode cX4_removeFirstWant 41 = .ok (.iinc 2 1, 3) := by decide +kernel
theorem dX4_removeFirstWant_44 : decode cX4_removeFirstWant 44 = .ok (.goto (-25), 3) := by decide +kernel
theorem dX4_removeFirstWant_47 : decode cX4_removeFirstWant 47 = .ok (.iload_n 1, 1) := by decide +kernel
theorem dX4_removeFirstWant_48 : decode cX4_removeFirstWant 48 = .ok (.ireturn, 1) := by decide +kernel
theorem dX5_init_0 : decode cX5_init 0 = .ok (.aload_n 0, 1) := by decide +kernel
theorem dX5_init_1 : decode cX5_init 1 = .ok (.invokespecial 3, 3) := by decide +kernel
theorem dX5_init_4 : decode cX5_init 4 = .ok (.aload_n 0, 1) := by decide +kernel
theorem dX5_init_5 : decode cX5_init 5 = .ok (.bipush 8, 2) := by decide +kernel
theorem dX5_init_7 : decode cX5_init 7 = .ok (.newarray .int, 2) := by decide +kernel
theorem dX5_init_9 : decode cX5_init 9 = .ok (.putfield 9, 3) := by decide +kernel
theorem dX5_init_12 : decode cX5_init 12 = .ok (.aload_n 0, 1) := by decide +kernel
theorem dX5_init_13 : decode cX5_init 13 = .ok (.iconst 0, 1) := by decide +kernel
theorem dX5_init_14 : decode cX5_init 14 = .ok (.putfield 15, 3) := by decide +kernel
theorem dX5_init_17 : decode cX5_init 17 = .ok (.aload_n 0, 1) := by decide +kernel
theorem dX5_init_18 : decode cX5_init 18 = .ok (.iconst 0, 1) := by decide +kernel
theorem dX5_init_19 : decode cX5_init 19 = .ok (.putfield 19, 3) := by decide +kernel
theorem dX5_init_22 : decode cX5_init 22 = .ok (.aload_n 0, 1) := by decide +kernel
theorem dX5_init_23 : decode cX5_init 23 = .ok (.bipush 8, 2) := by decide +kernel
theorem dX5_init_25 : decode cX5_init 25 = .ok (.newarray .int, 2) := by decide +kernel
theorem dX5_init_27 : decode cX5_init 27 = .ok (.putfield 22, 3) := by decide +kernel
theorem dX5_init_30 : decode cX5_init 30 = .ok (.aload_n 0, 1) := by decide +kernel
theorem dX5_init_31 : decode cX5_init 31 = .ok (.bipush 8, 2) := by decide +kernel
theorem dX5_init_33 : decode cX5_init 33 = .ok (.newarray .int, 2) := by decide +kernel
theorem dX5_init_35 : decode cX5_init 35 = .ok (.putfield 25, 3) := by decide +kernel
theorem dX5_init_38 : decode cX5_init 38 = .ok (.aload_n 0, 1) := by decide +kernel
theorem dX5_init_39 : decode cX5_init 39 = .ok (.sipush 6561, 3) := by decide +kernel
theorem dX5_init_42 : decode cX5_init 42 = .ok (.newarray .short, 2) := by decide +kernel
theorem dX5_init_44 : decode cX5_init 44 = .ok (.putfield 28, 3) := by decide +kernel
theorem dX5_init_47 : decode cX5_init 47 = .ok (.aload_n 0, 1) := by decide +kernel
theorem dX5_init_48 : decode cX5_init 48 = .ok (.iconst 0, 1) := by decide +kernel
theorem dX5_init_49 : decode cX5_init 49 = .ok (.putfield 32, 3) := by decide +kernel
theorem dX5_init_52 : decode cX5_init 52 = .ok (.aload_n 0, 1) := by decide +kernel
theorem dX5_init_53 : decode cX5_init 53 = .ok (.bipush 81, 2) := by decide +kernel
theorem dX5_init_55 : decode cX5_init 55 = .ok (.newarray .int, 2) := by decide +kernel
theorem dX5_init_57 : decode cX5_init 57 = .ok (.putfield 35, 3) := by decide +kernel
theorem dX5_init_60 : decode cX5_init 60 = .ok (.aload_n 0, 1) := by decide +kernel
theorem dX5_init_61 : decode cX5_init 61 = .ok (.bipush 81, 2) := by decide +kernel
theorem dX5_init_63 : decode cX5_init 63 = .ok (.newarray .int, 2) := by decide +kernel
theorem dX5_init_65 : decode cX5_init 65 = .ok (.putfield 38, 3) := by decide +kernel
theorem dX5_init_68 : decode cX5_init 68 = .ok (.aload_n 0, 1) := by decide +kernel
theorem dX5_init_69 : decode cX5_init 69 = .ok (.aload_n 1, 1) := by decide +kernel
theorem dX5_init_70 : decode cX5_init 70 = .ok (.putfield 41, 3) := by decide +kernel
theorem dX5_init_73 : decode cX5_init 73 = .ok (.return_, 1) := by decide +kernel
theorem dX5_learn_0 : decode cX5_learn 0 = .ok (.aload_n 0, 1) := by decide +kernel
theorem dX5_learn_1 : decode cX5_learn 1 = .ok (.aload_n 1, 1) := by decide +kernel
theorem dX5_learn_2 : decode cX5_learn 2 = .ok (.invokevirtual 45, 3) := by decide +kernel
theorem dX5_learn_5 : decode cX5_learn 5 = .ok (.ifCond .eq 4, 3) := by decide +kernel
theorem dX5_learn_8 : decode cX5_learn 8 = .ok (.return_, 1) := by decide +kernel
theorem dX5_learn_9 : decode cX5_learn 9 = .ok (.aload_n 0, 1) := by decide +kernel
theorem dX5_learn_10 : decode cX5_learn 10 = .ok (.aload_n 1, 1) := by decide +kernel
theorem dX5_learn_11 : decode cX5_learn 11 = .ok (.getfield 49, 3) := by decide +kernel
theorem dX5_learn_14 : decode cX5_learn 14 = .ok (.putfield 15, 3) := by decide +kernel
theorem dX5_learn_17 : decode cX5_learn 17 = .ok (.aload_n 1, 1) := by decide +kernel
theorem dX5_learn_18 : decode cX5_learn 18 = .ok (.getfield 52, 3) := by decide +kernel
theorem dX5_learn_21 : decode cX5_learn 21 = .ok (.iconst 0, 1) := by decide +kernel
theorem dX5_learn_22 : decode cX5_learn 22 = .ok (.aload_n 0, 1) := by decide +kernel
theorem dX5_learn_23 : decode cX5_learn 23 = .ok (.getfield 9, 3) := by decide +kernel
theorem dX5_learn_26 : decode cX5_learn 26 = .ok (.iconst 0, 1) := by decide +kernel
theorem dX5_learn_27 : decode cX5_learn 27 = .ok (.aload_n 0, 1) := by decide +kernel
theorem dX5_learn_28 : decode cX5_learn 28 = .ok (.getfield 15, 3) := by decide +kernel
theorem dX5_learn_31 : decode cX5_learn 31 = .ok (.invokestatic 53, 3) := by decide +kernel
theorem dX5_learn_34 : decode cX5_learn 34 = .ok (.aload_n 0, 1) := by decide +kernel
theorem dX5_learn_35 : decode cX5_learn 35 = .ok (.aload_n 0, 1) := by decide +kernel
theorem dX5_learn_36 : decode cX5_learn 36 = .ok (.aload_n 0, 1) := by decide +kernel
theorem dX5_learn_37 : decode cX5_learn 37 = .ok (.getfield 22, 3) := by decide +kernel
theorem dX5_learn_40 : decode cX5_learn 40 = .ok (.iconst (-1), 1) := by decide +kernel
theorem dX5_learn_41 : decode cX5_learn 41 = .ok (.invokevirtual 59, 3) := by decide +kernel
theorem dX5_learn_44 : decode cX5_learn 44 = .ok (.putfield 19, 3) := by decide +kernel
theorem dX5_learn_47 : decode cX5_learn 47 = .ok (.aload_n 0, 1) := by decide +kernel
theorem dX5_learn_48 : decode cX5_learn 48 = .ok (.iconst 0, 1) := by decide +kernel
theorem dX5_learn_49 : decode cX5_learn 49 = .ok (.putfield 32, 3) := by decide +kernel
theorem dX5_learn_52 : decode cX5_learn 52 = .ok (.return_, 1) := by decide +kernel
theorem dX5_isLearned_0 : decode cX5_isLearned 0 = .ok (.aload_n 1, 1) := by decide +kernel
theorem dX5_isLearned_1 : decode cX5_isLearned 1 = .ok (.getfield 49, 3) := by decide +kernel
theorem dX5_isLearned_4 : decode cX5_isLearned 4 = .ok (.aload_n 0, 1) := by decide +kernel
theorem dX5_isLearned_5 : decode cX5_isLearned 5 = .ok (.getfield 15, 3) := by decide +kernel
theorem dX5_isLearned_8 : decode cX5_isLearned 8 = .ok (.if_icmp .eq 5, 3) := by decide +kernel
theorem dX5_isLearned_11 : decode cX5_isLearned 11 = .ok (.iconst 0, 1) := by decide +kernel
theorem dX5_isLearned_12 : decode cX5_isLearned 12 = .ok (.ireturn, 1) := by decide +kernel
theorem dX5_isLearned_13 : decode cX5_isLearned 13 = .ok (.iconst 0, 1) := by decide +kernel
theorem dX5_isLearned_14 : decode cX5_isLearned 14 = .ok (.istore_n 2, 1) := by decide +kernel
theorem dX5_isLearned_15 : decode cX5_isLearned 15 = .ok (.iload_n 2, 1) := by decide +kernel
theorem dX5_isLearned_16 : decode cX5_isLearned 16 = .ok (.aload_n 0, 1) := by decide +kernel
theorem dX5_isLearned_17 : decode cX5_isLearned 17 = .ok (.getfield 15, 3) := by decide +kernel
theorem dX5_isLearned_20 : decode cX5_isLearned 20 = .ok (.if_icmp .ge 26, 3) := by decide +kernel
theorem dX5_isLearned_23 : decode cX5_isLearned 23 = .ok (.aload_n 1, 1) := by decide +kernel
theorem dX5_isLearned_24 : decode cX5_isLearned 24 = .ok (.getfield 52, 3) := by decide +kernel
theorem dX5_isLearned_27 : decode cX5_isLearned 27 = .ok (.iload_n 2, 1) := by decide +kernel
theorem dX5_isLearned_28 : decode cX5_isLearned 28 = .ok (.iaload, 1) := by decide +kernel
theorem dX5_isLearned_29 : decode cX5_isLearned 29 = .ok (.aload_n 0, 1) := by decide +kernel
theorem dX5_isLearned_30 : decode cX5_isLearned 30 = .ok (.getfield 9, 3) := by decide +kernel
theorem dX5_isLearned_33 : decode cX5_isLearned 33 = .ok (.iload_n 2, 1) := by decide +kernel
theorem dX5_isLearned_34 : decode cX5_isLearned 34 = .ok (.iaload, 1) := by decide +kernel
theorem dX5_isLearned_35 : decode cX5_isLearned 35 = .ok (.if_icmp .eq 5, 3) := by decide +kernel
theorem dX5_isLearned_38 : decode cX5_isLearned 38 = .ok (.iconst 0, 1) := by decide +kernel
theorem dX5_isLearned_39 : decode cX5_isLearned 39 = .ok (.ireturn, 1) := by decide +kernel
theorem dX5_isLearned_40 : decode cX5_isLearned 40 = .ok (.iinc 2 1, 3) := by decide +kernel
theorem dX5_isLearned_43 : decode cX5_isLearned 43 = .ok (.goto (-28), 3) := by decide +kernel
theorem dX5_isLearned_46 : decode cX5_isLearned 46 = .ok (.iconst 1, 1) := by decide +kernel
theorem dX5_isLearned_47 : decode cX5_isLearned 47 = .ok (.ireturn, 1) := by decide +kernel
theorem dX5_findLeads_0 : decode cX5_findLeads 0 = .ok (.aload_n 1, 1) := by decide +kernel
theorem dX5_findLeads_1 : decode cX5_findLeads 1 = .ok (.iconst 0, 1) := by decide +kernel
theorem dX5_findLeads_2 : decode cX5_findLeads 2 = .ok (.invokestatic 63, 3) := by decide +kernel
theorem dX5_findLeads_5 : decode cX5_findLeads 5 = .ok (.iconst 0, 1) := by decide +kernel
theorem dX5_findLeads_6 : decode cX5_findLeads 6 = .ok (.istore_n 3, 1) := by decide +kernel
theorem dX5_findLeads_7 : decode cX5_findLeads 7 = .ok (.iconst 0, 1) := by decide +kernel
theorem dX5_findLeads_8 : decode cX5_findLeads 8 = .ok (.istore 4, 2) := by decide +kernel
theorem dX5_findLeads_10 : decode cX5_findLeads 10 = .ok (.iload 4, 2) := by decide +kernel
theorem dX5_findLeads_12 : decode cX5_findLeads 12 = .ok (.aload_n 0, 1) := by decide +kernel
theorem dX5_findLeads_13 : decode cX5_findLeads 13 = .ok (.getfield 15, 3) := by decide +kernel
theorem dX5_findLeads_16 : decode cX5_findLeads 16 = .ok (.if_icmp .ge 91, 3) := by decide +kernel
theorem dX5_findLeads_19 : decode cX5_findLeads 19 = .ok (.iload 4, 2) := by decide +kernel
theorem dX5_findLeads_21 : decode cX5_findLeads 21 = .ok (.iload_n 2, 1) := by decide +kernel
theorem dX5_findLeads_22 : decode cX5_findLeads 22 = .ok (.if_icmp .ne 7, 3) := by decide +kernel
theorem dX5_findLeads_25 : decode cX5_findLeads 25 = .ok (.iconst 0, 1) := by decide +kernel
theorem dX5_findLeads_26 : decode cX5_findLeads 26 = .ok (.goto 15, 3) := by decide +kernel
theorem dX5_findLeads_29 : decode cX5_findLeads 29 = .ok (.aload_n 0, 1) := by decide +kernel
theorem dX5_findLeads_30 : decode cX5_findLeads 30 = .ok (.aload_n 1, 1) := by decide +kernel
theorem dX5_findLeads_31 : decode cX5_findLeads 31 = .ok (.aload_n 0, 1) := by decide +kernel
theorem dX5_findLeads_32 : decode cX5_findLeads 32 = .ok (.getfield 9, 3) := by decide +kernel
theorem dX5_findLeads_35 : decode cX5_findLeads 35 = .ok (.iload 4, 2) := by decide +kernel
theorem dX5_findLeads_37 : decode cX5_findLeads 37 = .ok (.iaload, 1) := by decide +kernel
theorem dX5_findLeads_38 : decode cX5_findLeads 38 = .ok (.invokevirtual 69, 3) := by decide +kernel
theorem dX5_findLeads_41 : decode cX5_findLeads 41 = .ok (.istore 5, 2) := by decide +kernel
theorem dX5_findLeads_43 : decode cX5_findLeads 43 = .ok (.iload 5, 2) := by decide +kernel
theorem dX5_findLeads_45 : decode cX5_findLeads 45 = .ok (.ifCond .eq 56, 3) := by decide +kernel
theorem dX5_findLeads_48 : decode cX5_findLeads 48 = .ok (.iload 5, 2) := by decide +kernel
theorem dX5_findLeads_50 : decode cX5_findLeads 50 = .ok (.invokestatic 72, 3) := by decide +kernel
theorem dX5_findLeads_53 : decode cX5_findLeads 53 = .ok (.istore 6, 2) := by decide +kernel
theorem dX5_findLeads_55 : decode cX5_findLeads 55 = .ok (.iload 5, 2) := by decide +kernel
theorem dX5_findLeads_57 : decode cX5_findLeads 57 = .ok (.getstatic 76, 3) := by decide +kernel
theorem dX5_findLeads_60 : decode cX5_findLeads 60 = .ok (.iload 6, 2) := by decide +kernel
theorem dX5_findLeads_62 : decode cX5_findLeads 62 = .ok (.iaload, 1) := by decide +kernel
theorem dX5_findLeads_63 : decode cX5_findLeads 63 = .ok (.idiv, 1) := by decide +kernel
theorem dX5_findLeads_64 : decode cX5_findLeads 64 = .ok (.iconst 1, 1) := by decide +kernel
theorem dX5_findLeads_65 : decode cX5_findLeads 65 = .ok (.if_icmp .ne 7, 3) := by decide +kernel
theorem dX5_findLeads_68 : decode cX5_findLeads 68 = .ok (.iconst 1, 1) := by decide +kernel
theorem dX5_findLeads_69 : decode cX5_findLeads 69 = .ok (.goto 4, 3) := by decide +kernel
theorem dX5_findLeads_72 : decode cX5_findLeads 72 = .ok (.iconst 0, 1) := by decide +kernel
theorem dX5_findLeads_73 : decode cX5_findLeads 73 = .ok (.istore 7, 2) := by decide +kernel
theorem dX5_findLeads_75 : decode cX5_findLeads 75 = .ok (.aload_n 1, 1) := by decide +kernel
theorem dX5_findLeads_76 : decode cX5_findLeads 76 = .ok (.iload 6, 2) := by decide +kernel
theorem dX5_findLeads_78 : decode cX5_findLeads 78 = .ok (.iload 7, 2) := by decide +kernel
theorem dX5_findLeads_80 : decode cX5_findLeads 80 = .ok (.ifCond .eq 8, 3) := by decide +kernel
theorem dX5_findLeads_83 : decode cX5_findLeads 83 = .ok (.iload 5, 2) := by decide +kernel
theorem dX5_findLeads_85 : decode cX5_findLeads 85 = .ok (.goto 12, 3) := by decide +kernel
theorem dX5_findLeads_88 : decode cX5_findLeads 88 = .ok (.aload_n 0, 1) := by decide +kernel
theorem dX5_findLeads_89 : decode cX5_findLeads 89 = .ok (.getfield 41, 3) := by decide +kernel
theorem dX5_findLeads_92 : decode cX5_findLeads 92 = .ok (.iload 5, 2) := by decide +kernel
theorem dX5_findLeads_94 : decode cX5_findLeads 94 = .ok (.invokevirtual 79, 3) := by decide +kernel
theorem dX5_findLeads_97 : decode cX5_findLeads 97 = .ok (.iastore, 1) := by decide +kernel
theorem dX5_findLeads_98 : decode cX5_findLeads 98 = .ok (.iinc 3 1, 3) := by decide +kernel
theorem dX5_findLeads_101 : decode cX5_findLeads 101 = .ok (.iinc 4 1, 3) := by decide +kernel
theorem dX5_findLeads_104 : decode cX5_findLeads 104 = .ok (.goto (-94), 3) := by decide +kernel
theorem dX5_findLeads_107 : decode cX5_findLeads 107 = .ok (.iload_n 3, 1) := by decide +kernel
theorem dX5_findLeads_108 : decode cX5_findLeads 108 = .ok (.ireturn, 1) := by decide +kernel
theorem dX5_highestSpice_0 : decode cX5_highestSpice 0 = .ok (.bipush 7, 2) := by decide +kernel
theorem dX5_highestSpice_2 : decode cX5_highestSpice 2 = .ok (.istore_n 1, 1) := by decide +kernel
theorem dX5_highestSpice_3 : decode cX5_highestSpice 3 = .ok (.iload_n 1, 1) := by decide +kernel
theorem dX5_highestSpice_4 : decode cX5_highestSpice 4 = .ok (.ifCond .le 18, 3) := by decide +kernel
theorem dX5_highestSpice_7 : decode cX5_highestSpice 7 = .ok (.iload_n 0, 1) := by decide +kernel
theorem dX5_highestSpice_8 : decode cX5_highestSpice 8 = .ok (.getstatic 76, 3) := by decide +kernel
theorem dX5_highestSpice_11 : decode cX5_highestSpice 11 = .ok (.iload_n 1, 1) := by decide +kernel
theorem dX5_highestSpice_12 : decode cX5_highestSpice 12 = .ok (.iaload, 1) := by decide +kernel
theorem dX5_highestSpice_13 : decode cX5_highestSpice 13 = .ok (.if_icmp .ge 9, 3) := by decide +kernel
theorem dX5_highestSpice_16 : decode cX5_highestSpice 16 = .ok (.iinc 1 (-1), 3) := by decide +kernel
theorem dX5_highestSpice_19 : decode cX5_highestSpice 19 = .ok (.goto (-16), 3) := by decide +kernel
theorem dX5_highestSpice_22 : decode cX5_highestSpice 22 = .ok (.iload_n 1, 1) := by decide +kernel
theorem dX5_highestSpice_23 : decode cX5_highestSpice 23 = .ok (.ireturn, 1) := by decide +kernel
theorem dX5_reduced_0 : decode cX5_reduced 0 = .ok (.iload_n 2, 1) := by decide +kernel
theorem dX5_reduced_1 : decode cX5_reduced 1 = .ok (.istore_n 3, 1) := by decide +kernel
theorem dX5_reduced_2 : decode cX5_reduced 2 = .ok (.bipush 7, 2) := by decide +kernel
theorem dX5_reduced_4 : decode cX5_reduced 4 = .ok (.istore 4, 2) := by decide +kernel
theorem dX5_reduced_6 : decode cX5_reduced 6 = .ok (.iload 4, 2) := by decide +kernel
theorem dX5_reduced_8 : decode cX5_reduced 8 = .ok (.ifCond .lt 69, 3) := by decide +kernel
theorem dX5_reduced_11 : decode cX5_reduced 11 = .ok (.aload_n 1, 1) := by decide +kernel
theorem dX5_reduced_12 : decode cX5_reduced 12 = .ok (.iload 4, 2) := by decide +kernel
theorem dX5_reduced_14 : decode cX5_reduced 14 = .ok (.iaload, 1) := by decide +kernel
theorem dX5_reduced_15 : decode cX5_reduced 15 = .ok (.ifCond .ne 7, 3) := by decide +kernel
theorem dX5_reduced_18 : decode cX5_reduced 18 = .ok (.iconst 0, 1) := by decide +kernel
theorem dX5_reduced_19 : decode cX5_reduced 19 = .ok (.goto 13, 3) := by decide +kernel
theorem dX5_reduced_22 : decode cX5_reduced 22 = .ok (.iload_n 3, 1) := by decide +kernel
theorem dX5_reduced_23 : decode cX5_reduced 23 = .ok (.getstatic 76, 3) := by decide +kernel
theorem dX5_reduced_26 : decode cX5_reduced 26 = .ok (.iload 4, 2) := by decide +kernel
theorem dX5_reduced_28 : decode cX5_reduced 28 = .ok (.iaload, 1) := by decide +kernel
theorem dX5_reduced_29 : decode cX5_reduced 29 = .ok (.idiv, 1) := by decide +kernel
theorem dX5_reduced_30 : decode cX5_reduced 30 = .ok (.iconst 3, 1) := by decide +kernel
theorem dX5_reduced_31 : decode cX5_reduced 31 = .ok (.irem, 1) := by decide +kernel
theorem dX5_reduced_32 : decode cX5_reduced 32 = .ok (.istore 5, 2) := by decide +kernel
theorem dX5_reduced_34 : decode cX5_reduced 34 = .ok (.iload 5, 2) := by decide +kernel
theorem dX5_reduced_36 : decode cX5_reduced 36 = .ok (.ifCond .le 16, 3) := by decide +kernel
theorem dX5_reduced_39 : decode cX5_reduced 39 = .ok (.aload_n 0, 1) := by decide +kernel
theorem dX5_reduced_40 : decode cX5_reduced 40 = .ok (.getfield 41, 3) := by decide +kernel
theorem dX5_reduced_43 : decode cX5_reduced 43 = .ok (.iload_n 3, 1) := by decide +kernel
theorem dX5_reduced_44 : decode cX5_reduced 44 = .ok (.aload_n 1, 1) := by decide +kernel
theorem dX5_reduced_45 : decode cX5_reduced 45 = .ok (.iload 4, 2) := by decide +kernel
theorem dX5_reduced_47 : decode cX5_reduced 47 = .ok (.iaload, 1) := by decide +kernel
theorem dX5_reduced_48 : decode cX5_reduced 48 = .ok (.invokevirtual 84, 3) := by decide +kernel
theorem dX5_reduced_51 : decode cX5_reduced 51 = .ok (.istore_n 3, 1) := by decide +kernel
theorem dX5_reduced_52 : decode cX5_reduced 52 = .ok (.iload 5, 2) := by decide +kernel
theorem dX5_reduced_54 : decode cX5_reduced 54 = .ok (.iconst 1, 1) := by decide +kernel
theorem dX5_reduced_55 : decode cX5_reduced 55 = .ok (.if_icmp .ne 16, 3) := by decide +kernel
theorem dX5_reduced_58 : decode cX5_reduced 58 = .ok (.aload_n 0, 1) := by decide +kernel
theorem dX5_reduced_59 : decode cX5_reduced 59 = .ok (.getfield 41, 3) := by decide +kernel
theorem dX5_reduced_62 : decode cX5_reduced 62 = .ok (.iload_n 3, 1) := by decide +kernel
theorem dX5_reduced_63 : decode cX5_reduced 63 = .ok (.aload_n 1, 1) := by decide +kernel
theorem dX5_reduced_64 : decode cX5_reduced 64 = .ok (.iload 4, 2) := by decide +kernel
theorem dX5_reduced_66 : decode cX5_reduced 66 = .ok (.iaload, 1) := by decide +kernel
theorem dX5_reduced_67 : decode cX5_reduced 67 = .ok (.invokevirtual 84, 3) := by decide +kernel
theorem dX5_reduced_70 : decode cX5_reduced 70 = .ok (.istore_n 3, 1) := by decide +kernel
theorem dX5_reduced_71 : decode cX5_reduced 71 = .ok (.iinc 4 (-1), 3) := by decide +kernel
theorem dX5_reduced_74 : decode cX5_reduced 74 = .ok (.goto (-68), 3) := by decide +kernel
theorem dX5_reduced_77 : decode cX5_reduced 77 = .ok (.iload_n 3, 1) := by decide +kernel
theorem dX5_reduced_78 : decode cX5_reduced 78 = .ok (.ireturn, 1) := by decide +kernel
theorem dX5_leastLike_0 : decode cX5_leastLike 0 = .ok (.aload_n 0, 1) := by decide +kernel
theorem dX5_leastLike_1 : decode cX5_leastLike 1 = .ok (.aload_n 0, 1) := by decide +kernel
theorem dX5_leastLike_2 : decode cX5_leastLike 2 = .ok (.getfield 22, 3) := by decide +kernel
theorem dX5_leastLike_5 : decode cX5_leastLike 5 = .ok (.iload_n 1, 1) := by decide +kernel
theorem dX5_leastLike_6 : decode cX5_leastLike 6 = .ok (.invokevirtual 69, 3) := by decide +kernel
theorem dX5_leastLike_9 : decode cX5_leastLike 9 = .ok (.ireturn, 1) := by decide +kernel
theorem dX5_firstJarLike_0 : decode cX5_firstJarLike 0 = .ok (.iconst 0, 1) := by decide +kernel
theorem dX5_firstJarLike_1 : decode cX5_firstJarLike 1 = .ok (.istore_n 3, 1) := by decide +kernel
theorem dX5_firstJarLike_2 : decode cX5_firstJarLike 2 = .ok (.iload_n 3, 1) := by decide +kernel
theorem dX5_firstJarLike_3 : decode cX5_firstJarLike 3 = .ok (.aload_n 2, 1) := by decide +kernel
theorem dX5_firstJarLike_4 : decode cX5_firstJarLike 4 = .ok (.getfield 88, 3) := by decide +kernel
theorem dX5_firstJarLike_7 : decode cX5_firstJarLike 7 = .ok (.if_icmp .ge 25, 3) := by decide +kernel
theorem dX5_firstJarLike_10 : decode cX5_firstJarLike 10 = .ok (.aload_n 0, 1) := by decide +kernel
theorem dX5_firstJarLike_11 : decode cX5_firstJarLike 11 = .ok (.aload_n 2, 1) := by decide +kernel
theorem dX5_firstJarLike_12 : decode cX5_firstJarLike 12 = .ok (.getfield 91, 3) := by decide +kernel
theorem dX5_firstJarLike_15 : decode cX5_firstJarLike 15 = .ok (.iload_n 3, 1) := by decide +kernel
theorem dX5_firstJarLike_16 : decode cX5_firstJarLike 16 = .ok (.iaload, 1) := by decide +kernel
theorem dX5_firstJarLike_17 : decode cX5_firstJarLike 17 = .ok (.invokevirtual 93, 3) := by decide +kernel
theorem dX5_firstJarLike_20 : decode cX5_firstJarLike 20 = .ok (.iload_n 1, 1) := by decide +kernel
theorem dX5_firstJarLike_21 : decode cX5_firstJarLike 21 = .ok (.if_icmp .ne 5, 3) := by decide +kernel
theorem dX5_firstJarLike_24 : decode cX5_firstJarLike 24 = .ok (.iload_n 3, 1) := by decide +kernel
theorem dX5_firstJarLike_25 : decode cX5_firstJarLike 25 = .ok (.ireturn, 1) := by decide +kernel
theorem dX5_firstJarLike_26 : decode cX5_firstJarLike 26 = .ok (.iinc 3 1, 3) := by decide +kernel
theorem dX5_firstJarLike_29 : decode cX5_firstJarLike 29 = .ok (.goto (-27), 3) := by decide +kernel
theorem dX5_firstJarLike_32 : decode cX5_firstJarLike 32 = .ok (.bipush (-5), 2) := by decide +kernel
theorem dX5_firstJarLike_34 : decode cX5_firstJarLike 34 = .ok (.ireturn, 1) := by decide +kernel
theorem dX5_someBlandLeads_0 : decode cX5_someBlandLeads 0 = .ok (.aload_n 0, 1) := by decide +kernel
theorem dX5_someBlandLeads_1 : decode cX5_someBlandLeads 1 = .ok (.invokevirtual 96, 3) := by decide +kernel
theorem dX5_someBlandLeads_4 : decode cX5_someBlandLeads 4 = .ok (.aload_n 0, 1) := by decide +kernel
theorem dX5_someBlandLeads_5 : decode cX5_someBlandLeads 5 = .ok (.getfield 41, 3) := by decide +kernel
theorem dX5_someBlandLeads_8 : decode cX5_someBlandLeads 8 = .ok (.iload_n 2, 1) := by decide +kernel
theorem dX5_someBlandLeads_9 : decode cX5_someBlandLeads 9 = .ok (.aload_n 0, 1) := by decide +kernel
theorem dX5_someBlandLeads_10 : decode cX5_someBlandLeads 10 = .ok (.getfield 41, 3) := by decide +kernel
theorem dX5_someBlandLeads_13 : decode cX5_someBlandLeads 13 = .ok (.iload_n 1, 1) := by decide +kernel
theorem dX5_someBlandLeads_14 : decode cX5_someBlandLeads 14 = .ok (.invokevirtual 79, 3) := by decide +kernel
theorem dX5_someBlandLeads_17 : decode cX5_someBlandLeads 17 = .ok (.invokevirtual 84, 3) := by decide +kernel
theorem dX5_someBlandLeads_20 : decode cX5_someBlandLeads 20 = .ok (.istore_n 3, 1) := by decide +kernel
theorem dX5_someBlandLeads_21 : decode cX5_someBlandLeads 21 = .ok (.iconst 0, 1) := by decide +kernel
theorem dX5_someBlandLeads_22 : decode cX5_someBlandLeads 22 = .ok (.istore 4, 2) := by decide +kernel
theorem dX5_someBlandLeads_24 : decode cX5_someBlandLeads 24 = .ok (.iload 4, 2) := by decide +kernel
theorem dX5_someBlandLeads_26 : decode cX5_someBlandLeads 26 = .ok (.aload_n 0, 1) := by decide +kernel
theorem dX5_someBlandLeads_27 : decode cX5_someBlandLeads 27 = .ok (.getfield 32, 3) := by decide +kernel
theorem dX5_someBlandLeads_30 : decode cX5_someBlandLeads 30 = .ok (.if_icmp .ge 22, 3) := by decide +kernel
theorem dX5_someBlandLeads_33 : decode cX5_someBlandLeads 33 = .ok (.aload_n 0, 1) := by decide +kernel
theorem dX5_someBlandLeads_34 : decode cX5_someBlandLeads 34 = .ok (.getfield 28, 3) := by decide +kernel
theorem dX5_someBlandLeads_37 : decode cX5_someBlandLeads 37 = .ok (.iload 4, 2) := by decide +kernel
theorem dX5_someBlandLeads_39 : decode cX5_someBlandLeads 39 = .ok (.saload, 1) := by decide +kernel
theorem dX5_someBlandLeads_40 : decode cX5_someBlandLeads 40 = .ok (.iload_n 3, 1) := by decide +kernel
theorem dX5_someBlandLeads_41 : decode cX5_someBlandLeads 41 = .ok (.if_icmp .ne 5, 3) := by decide +kernel
theorem dX5_someBlandLeads_44 : decode cX5_someBlandLeads 44 = .ok (.iconst 1, 1) := by decide +kernel
theorem dX5_someBlandLeads_45 : decode cX5_someBlandLeads 45 = .ok (.ireturn, 1) := by decide +kernel
theorem dX5_someBlandLeads_46 : decode cX5_someBlandLeads 46 = .ok (.iinc 4 1, 3) := by decide +kernel
theorem dX5_someBlandLeads_49 : decode cX5_someBlandLeads 49 = .ok (.goto (-25), 3) := by decide +kernel
theorem dX5_someBlandLeads_52 : decode cX5_someBlandLeads 52 = .ok (.iconst 0, 1) := by decide +kernel
theorem dX5_someBlandLeads_53 : decode cX5_someBlandLeads 53 = .ok (.ireturn, 1) := by decide +kernel
theorem dX5_cheapestLike_0 : decode cX5_cheapestLike 0 = .ok (.aload_n 0, 1) := by decide +kernel
theorem dX5_cheapestLike_1 : decode cX5_cheapestLike 1 = .ok (.invokevirtual 96, 3) := by decide +kernel
theorem dX5_cheapestLike_4 : decode cX5_cheapestLike 4 = .ok (.aload_n 0, 1) := by decide +kernel
theorem dX5_cheapestLike_5 : decode cX5_cheapestLike 5 = .ok (.aload_n 2, 1) := by decide +kernel
theorem dX5_cheapestLike_6 : decode cX5_cheapestLike 6 = .ok (.invokevirtual 99, 3) := by decide +kernel
theorem dX5_cheapestLike_9 : decode cX5_cheapestLike 9 = .ok (.iload_n 1, 1) := by decide +kernel
theorem dX5_cheapestLike_10 : decode cX5_cheapestLike 10 = .ok (.istore_n 3, 1) := by decide +kernel
theorem dX5_cheapestLike_11 : decode cX5_cheapestLike 11 = .ok (.iload_n 1, 1) := by decide +kernel
theorem dX5_cheapestLike_12 : decode cX5_cheapestLike 12 = .ok (.aload_n 2, 1) := by decide +kernel
theorem dX5_cheapestLike_13 : decode cX5_cheapestLike 13 = .ok (.invokestatic 103, 3) := by decide +kernel
theorem dX5_cheapestLike_16 : decode cX5_cheapestLike 16 = .ok (.istore 4, 2) := by decide +kernel
theorem dX5_cheapestLike_18 : decode cX5_cheapestLike 18 = .ok (.iconst 0, 1) := by decide +kernel
theorem dX5_cheapestLike_19 : decode cX5_cheapestLike 19 = .ok (.istore 5, 2) := by decide +kernel
theorem dX5_cheapestLike_21 : decode cX5_cheapestLike 21 = .ok (.iload 5, 2) := by decide +kernel
theorem dX5_cheapestLike_23 : decode cX5_cheapestLike 23 = .ok (.aload_n 0, 1) := by decide +kernel
theorem dX5_cheapestLike_24 : decode cX5_cheapestLike 24 = .ok (.getfield 32, 3) := by decide +kernel
theorem dX5_cheapestLike_27 : decode cX5_cheapestLike 27 = .ok (.if_icmp .ge 76, 3) := by decide +kernel
theorem dX5_cheapestLike_30 : decode cX5_cheapestLike 30 = .ok (.aload_n 0, 1) := by decide +kernel
theorem dX5_cheapestLike_31 : decode cX5_cheapestLike 31 = .ok (.getfield 41, 3) := by decide +kernel
theorem dX5_cheapestLike_34 : decode cX5_cheapestLike 34 = .ok (.iload_n 1, 1) := by decide +kernel
theorem dX5_cheapestLike_35 : decode cX5_cheapestLike 35 = .ok (.aload_n 0, 1) := by decide +kernel
theorem dX5_cheapestLike_36 : decode cX5_cheapestLike 36 = .ok (.getfield 28, 3) := by decide +kernel
theorem dX5_cheapestLike_39 : decode cX5_cheapestLike 39 = .ok (.iload 5, 2) := by decide +kernel
theorem dX5_cheapestLike_41 : decode cX5_cheapestLike 41 = .ok (.saload, 1) := by decide +kernel
theorem dX5_cheapestLike_42 : decode cX5_cheapestLike 42 = .ok (.invokevirtual 84, 3) := by decide +kernel
theorem dX5_cheapestLike_45 : decode cX5_cheapestLike 45 = .ok (.istore 6, 2) := by decide +kernel
theorem dX5_cheapestLike_47 : decode cX5_cheapestLike 47 = .ok (.aload_n 0, 1) := by decide +kernel
theorem dX5_cheapestLike_48 : decode cX5_cheapestLike 48 = .ok (.getfield 35, 3) := by decide +kernel
theorem dX5_cheapestLike_51 : decode cX5_cheapestLike 51 = .ok (.iload 6, 2) := by decide +kernel
theorem dX5_cheapestLike_53 : decode cX5_cheapestLike 53 = .ok (.bipush 81, 2) := by decide +kernel
theorem dX5_cheapestLike_55 : decode cX5_cheapestLike 55 = .ok (.irem, 1) := by decide +kernel
theorem dX5_cheapestLike_56 : decode cX5_cheapestLike 56 = .ok (.iaload, 1) := by decide +kernel
theorem dX5_cheapestLike_57 : decode cX5_cheapestLike 57 = .ok (.aload_n 0, 1) := by decide +kernel
theorem dX5_cheapestLike_58 : decode cX5_cheapestLike 58 = .ok (.getfield 38, 3) := by decide +kernel
theorem dX5_cheapestLike_61 : decode cX5_cheapestLike 61 = .ok (.iload 6, 2) := by decide +kernel
theorem dX5_cheapestLike_63 : decode cX5_cheapestLike 63 = .ok (.bipush 81, 2) := by decide +kernel
theorem dX5_cheapestLike_65 : decode cX5_cheapestLike 65 = .ok (.idiv, 1) := by decide +kernel
theorem dX5_cheapestLike_66 : decode cX5_cheapestLike 66 = .ok (.iaload, 1) := by decide +kernel
theorem dX5_cheapestLike_67 : decode cX5_cheapestLike 67 = .ok (.iadd, 1) := by decide +kernel
theorem dX5_cheapestLike_68 : decode cX5_cheapestLike 68 = .ok (.istore 7, 2) := by decide +kernel
theorem dX5_cheapestLike_70 : decode cX5_cheapestLike 70 = .ok (.iload 7, 2) := by decide +kernel
theorem dX5_cheapestLike_72 : decode cX5_cheapestLike 72 = .ok (.iload 4, 2) := by decide +kernel
theorem dX5_cheapestLike_74 : decode cX5_cheapestLike 74 = .ok (.if_icmp .lt 16, 3) := by decide +kernel
theorem dX5_cheapestLike_77 : decode cX5_cheapestLike 77 = .ok (.iload 7, 2) := by decide +kernel
theorem dX5_cheapestLike_79 : decode cX5_cheapestLike 79 = .ok (.iload 4, 2) := by decide +kernel
theorem dX5_cheapestLike_81 : decode cX5_cheapestLike 81 = .ok (.if_icmp .ne 16, 3) := by decide +kernel
theorem dX5_cheapestLike_84 : decode cX5_cheapestLike 84 = .ok (.iload 6, 2) := by decide +kernel
theorem dX5_cheapestLike_86 : decode cX5_cheapestLike 86 = .ok (.iload_n 3, 1) := by decide +kernel
theorem dX5_cheapestLike_87 : decode cX5_cheapestLike 87 = .ok (.if_icmp .ge 10, 3) := by decide +kernel
theorem dX5_cheapestLike_90 : decode cX5_cheapestLike 90 = .ok (.iload 6, 2) := by decide +kernel
theorem dX5_cheapestLike_92 : decode cX5_cheapestLike 92 = .ok (.istore_n 3, 1) := by decide +kernel
theorem dX5_cheapestLike_93 : decode cX5_cheapestLike 93 = .ok (.iload 7, 2) := by decide +kernel
theorem dX5_cheapestLike_95 : decode cX5_cheapestLike 95 = .ok (.istore 4, 2) := by decide +kernel
theorem dX5_cheapestLike_97 : decode cX5_cheapestLike 97 = .ok (.iinc 5 1, 3) := by decide +kernel
theorem dX5_cheapestLike_100 : decode cX5_cheapestLike 100 = .ok (.goto (-79), 3) := by decide +kernel
theorem dX5_cheapestLike_103 : decode cX5_cheapestLike 103 = .ok (.iload_n 3, 1) := by decide +kernel
theorem dX5_cheapestLike_104 : decode cX5_cheapestLike 104 = .ok (.ireturn, 1) := by decide +kernel
theorem dX5_fillCosts_0 : decode cX5_fillCosts 0 = .ok (.iconst 0, 1) := by decide +kernel
theorem dX5_fillCosts_1 : decode cX5_fillCosts 1 = .ok (.istore_n 2, 1) := by decide +kernel
theorem dX5_fillCosts_2 : decode cX5_fillCosts 2 = .ok (.iload_n 2, 1) := by decide +kernel
theorem dX5_fillCosts_3 : decode cX5_fillCosts 3 = .ok (.bipush 81, 2) := by decide +kernel
theorem dX5_fillCosts_5 : decode cX5_fillCosts 5 = .ok (.if_icmp .ge 34, 3) := by decide +kernel
theorem dX5_fillCosts_8 : decode cX5_fillCosts 8 = .ok (.aload_n 0, 1) := by decide +kernel
theorem dX5_fillCosts_9 : decode cX5_fillCosts 9 = .ok (.getfield 35, 3) := by decide +kernel
theorem dX5_fillCosts_12 : decode cX5_fillCosts 12 = .ok (.iload_n 2, 1) := by decide +kernel
theorem dX5_fillCosts_13 : decode cX5_fillCosts 13 = .ok (.iload_n 2, 1) := by decide +kernel
theorem dX5_fillCosts_14 : decode cX5_fillCosts 14 = .ok (.aload_n 1, 1) := by decide +kernel
theorem dX5_fillCosts_15 : decode cX5_fillCosts 15 = .ok (.invokestatic 103, 3) := by decide +kernel
theorem dX5_fillCosts_18 : decode cX5_fillCosts 18 = .ok (.iastore, 1) := by decide +kernel
theorem dX5_fillCosts_19 : decode cX5_fillCosts 19 = .ok (.aload_n 0, 1) := by decide +kernel
theorem dX5_fillCosts_20 : decode cX5_fillCosts 20 = .ok (.getfield 38, 3) := by decide +kernel
theorem dX5_fillCosts_23 : decode cX5_fillCosts 23 = .ok (.iload_n 2, 1) := by decide +kernel
theorem dX5_fillCosts_24 : decode cX5_fillCosts 24 = .ok (.iload_n 2, 1) := by decide +kernel
theorem dX5_fillCosts_25 : decode cX5_fillCosts 25 = .ok (.bipush 81, 2) := by decide +kernel
theorem dX5_fillCosts_27 : decode cX5_fillCosts 27 = .ok (.imul, 1) := by decide +kernel
theorem dX5_fillCosts_28 : decode cX5_fillCosts 28 = .ok (.aload_n 1, 1) := by decide +kernel
theorem dX5_fillCosts_29 : decode cX5_fillCosts 29 = .ok (.invokestatic 103, 3) := by decide +kernel
theorem dX5_fillCosts_32 : decode cX5_fillCosts 32 = .ok (.iastore, 1) := by decide +kernel
theorem dX5_fillCosts_33 : decode cX5_fillCosts 33 = .ok (.iinc 2 1, 3) := by decide +kernel
theorem dX5_fillCosts_36 : decode cX5_fillCosts 36 = .ok (.goto (-34), 3) := by decide +kernel
theorem dX5_fillCosts_39 : decode cX5_fillCosts 39 = .ok (.return_, 1) := by decide +kernel
theorem dX5_listBland_0 : decode cX5_listBland 0 = .ok (.aload_n 0, 1) := by decide +kernel
theorem dX5_listBland_1 : decode cX5_listBland 1 = .ok (.getfield 32, 3) := by decide +kernel
theorem dX5_listBland_4 : decode cX5_listBland 4 = .ok (.ifCond .le 4, 3) := by decide +kernel
theorem dX5_listBland_7 : decode cX5_listBland 7 = .ok (.return_, 1) := by decide +kernel
theorem dX5_listBland_8 : decode cX5_listBland 8 = .ok (.aload_n 0, 1) := by decide +kernel
theorem dX5_listBland_9 : decode cX5_listBland 9 = .ok (.getfield 28, 3) := by decide +kernel
theorem dX5_listBland_12 : decode cX5_listBland 12 = .ok (.iconst 0, 1) := by decide +kernel
theorem dX5_listBland_13 : decode cX5_listBland 13 = .ok (.iconst 0, 1) := by decide +kernel
theorem dX5_listBland_14 : decode cX5_listBland 14 = .ok (.sastore, 1) := by decide +kernel
theorem dX5_listBland_15 : decode cX5_listBland 15 = .ok (.aload_n 0, 1) := by decide +kernel
theorem dX5_listBland_16 : decode cX5_listBland 16 = .ok (.iconst 1, 1) := by decide +kernel
theorem dX5_listBland_17 : decode cX5_listBland 17 = .ok (.putfield 32, 3) := by decide +kernel
theorem dX5_listBland_20 : decode cX5_listBland 20 = .ok (.iconst 0, 1) := by decide +kernel
theorem dX5_listBland_21 : decode cX5_listBland 21 = .ok (.istore_n 1, 1) := by decide +kernel
theorem dX5_listBland_22 : decode cX5_listBland 22 = .ok (.iload_n 1, 1) := by decide +kernel
theorem dX5_listBland_23 : decode cX5_listBland 23 = .ok (.bipush 8, 2) := by decide +kernel
theorem dX5_listBland_25 : decode cX5_listBland 25 = .ok (.if_icmp .ge 28, 3) := by decide +kernel
theorem dX5_listBland_28 : decode cX5_listBland 28 = .ok (.aload_n 0, 1) := by decide +kernel
theorem dX5_listBland_29 : decode cX5_listBland 29 = .ok (.getfield 22, 3) := by decide +kernel
theorem dX5_listBland_32 : decode cX5_listBland 32 = .ok (.iload_n 1, 1) := by decide +kernel
theorem dX5_listBland_33 : decode cX5_listBland 33 = .ok (.iaload, 1) := by decide +kernel
theorem dX5_listBland_34 : decode cX5_listBland 34 = .ok (.ifCond .eq 13, 3) := by decide +kernel
theorem dX5_listBland_37 : decode cX5_listBland 37 = .ok (.aload_n 0, 1) := by decide +kernel
theorem dX5_listBland_38 : decode cX5_listBland 38 = .ok (.aload_n 0, 1) := by decide +kernel
theorem dX5_listBland_39 : decode cX5_listBland 39 = .ok (.getfield 22, 3) := by decide +kernel
theorem dX5_listBland_42 : decode cX5_listBland 42 = .ok (.iload_n 1, 1) := by decide +kernel
theorem dX5_listBland_43 : decode cX5_listBland 43 = .ok (.iaload, 1) := by decide +kernel
theorem dX5_listBland_44 : decode cX5_listBland 44 = .ok (.invokevirtual 107, 3) := by decide +kernel
theorem dX5_listBland_47 : decode cX5_listBland 47 = .ok (.iinc 1 1, 3) := by decide +kernel
theorem dX5_listBland_50 : decode cX5_listBland 50 = .ok (.goto (-28), 3) := by decide +kernel
theorem dX5_listBland_53 : decode cX5_listBland 53 = .ok (.return_, 1) := by decide +kernel
theorem dX5_listWithLead_0 : decode cX5_listWithLead 0 = .ok (.aload_n 0, 1) := by decide +kernel
theorem dX5_listWithLead_1 : decode cX5_listWithLead 1 = .ok (.getfield 32, 3) := by decide +kernel
theorem dX5_listWithLead_4 : decode cX5_listWithLead 4 = .ok (.istore_n 2, 1) := by decide +kernel
theorem dX5_listWithLead_5 : decode cX5_listWithLead 5 = .ok (.iconst 0, 1) := by decide +kernel
theorem dX5_listWithLead_6 : decode cX5_listWithLead 6 = .ok (.istore_n 3, 1) := by decide +kernel
theorem dX5_listWithLead_7 : decode cX5_listWithLead 7 = .ok (.iload_n 3, 1) := by decide +kernel
theorem dX5_listWithLead_8 : decode cX5_listWithLead 8 = .ok (.iload_n 2, 1) := by decide +kernel
theorem dX5_listWithLead_9 : decode cX5_listWithLead 9 = .ok (.if_icmp .ge 57, 3) := by decide +kernel
theorem dX5_listWithLead_12 : decode cX5_listWithLead 12 = .ok (.aload_n 0, 1) := by decide +kernel
theorem dX5_listWithLead_13 : decode cX5_listWithLead 13 = .ok (.getfield 41, 3) := by decide +kernel
theorem dX5_listWithLead_16 : decode cX5_listWithLead 16 = .ok (.aload_n 0, 1) := by decide +kernel
theorem dX5_listWithLead_17 : decode cX5_listWithLead 17 = .ok (.getfield 28, 3) := by decide +kernel
theorem dX5_listWithLead_20 : decode cX5_listWithLead 20 = .ok (.iload_n 3, 1) := by decide +kernel
theorem dX5_listWithLead_21 : decode cX5_listWithLead 21 = .ok (.saload, 1) := by decide +kernel
theorem dX5_listWithLead_22 : decode cX5_listWithLead 22 = .ok (.iload_n 1, 1) := by decide +kernel
theorem dX5_listWithLead_23 : decode cX5_listWithLead 23 = .ok (.invokevirtual 84, 3) := by decide +kernel
theorem dX5_listWithLead_26 : decode cX5_listWithLead 26 = .ok (.istore 4, 2) := by decide +kernel
theorem dX5_listWithLead_28 : decode cX5_listWithLead 28 = .ok (.aload_n 0, 1) := by decide +kernel
theorem dX5_listWithLead_29 : decode cX5_listWithLead 29 = .ok (.getfield 28, 3) := by decide +kernel
theorem dX5_listWithLead_32 : decode cX5_listWithLead 32 = .ok (.iload_n 2, 1) := by decide +kernel
theorem dX5_listWithLead_33 : decode cX5_listWithLead 33 = .ok (.iload_n 3, 1) := by decide +kernel
theorem dX5_listWithLead_34 : decode cX5_listWithLead 34 = .ok (.iadd, 1) := by decide +kernel
theorem dX5_listWithLead_35 : decode cX5_listWithLead 35 = .ok (.iload 4, 2) := by decide +kernel
theorem dX5_listWithLead_37 : decode cX5_listWithLead 37 = .ok (.i2s, 1) := by decide +kernel
theorem dX5_listWithLead_38 : decode cX5_listWithLead 38 = .ok (.sastore, 1) := by decide +kernel
theorem dX5_listWithLead_39 : decode cX5_listWithLead 39 = .ok (.aload_n 0, 1) := by decide +kernel
theorem dX5_listWithLead_40 : decode cX5_listWithLead 40 = .ok (.getfield 28, 3) := by decide +kernel
theorem dX5_listWithLead_43 : decode cX5_listWithLead 43 = .ok (.iconst 2, 1) := by decide +kernel
theorem dX5_listWithLead_44 : decode cX5_listWithLead 44 = .ok (.iload_n 2, 1) := by decide +kernel
theorem dX5_listWithLead_45 : decode cX5_listWithLead 45 = .ok (.imul, 1) := by decide +kernel
theorem dX5_listWithLead_46 : decode cX5_listWithLead 46 = .ok (.iload_n 3, 1) := by decide +kernel
theorem dX5_listWithLead_47 : decode cX5_listWithLead 47 = .ok (.iadd, 1) := by decide +kernel
theorem dX5_listWithLead_48 : decode cX5_listWithLead 48 = .ok (.aload_n 0, 1) := by decide +kernel
theorem dX5_listWithLead_49 : decode cX5_listWithLead 49 = .ok (.getfield 41, 3) := by decide +kernel
theorem dX5_listWithLead_52 : decode cX5_listWithLead 52 = .ok (.iload 4, 2) := by decide +kernel
theorem dX5_listWithLead_54 : decode cX5_listWithLead 54 = .ok (.iload_n 1, 1) := by decide +kernel
theorem dX5_listWithLead_55 : decode cX5_listWithLead 55 = .ok (.invokevirtual 84, 3) := by decide +kernel
theorem dX5_listWithLead_58 : decode cX5_listWithLead 58 = .ok (.i2s, 1) := by decide +kernel
theorem dX5_listWithLead_59 : decode cX5_listWithLead 59 = .ok (.sastore, 1) := by decide +kernel
theorem dX5_listWithLead_60 : decode cX5_listWithLead 60 = .ok (.iinc 3 1, 3) := by decide +kernel
theorem dX5_listWithLead_63 : decode cX5_listWithLead 63 = .ok (.goto (-56), 3) := by decide +kernel
theorem dX5_listWithLead_66 : decode cX5_listWithLead 66 = .ok (.aload_n 0, 1) := by decide +kernel
theorem dX5_listWithLead_67 : decode cX5_listWithLead 67 = .ok (.iconst 3, 1) := by decide +kernel
theorem dX5_listWithLead_68 : decode cX5_listWithLead 68 = .ok (.iload_n 2, 1) := by decide +kernel
theorem dX5_listWithLead_69 : decode cX5_listWithLead 69 = .ok (.imul, 1) := by decide +kernel
theorem dX5_listWithLead_70 : decode cX5_listWithLead 70 = .ok (.putfield 32, 3) := by decide +kernel
theorem dX5_listWithLead_73 : decode cX5_listWithLead 73 = .ok (.return_, 1) := by decide +kernel
theorem dX5_firstNeedless_0 : decode cX5_firstNeedless 0 = .ok (.iconst 0, 1) := by decide +kernel
theorem dX5_firstNeedless_1 : decode cX5_firstNeedless 1 = .ok (.istore_n 1, 1) := by decide +kernel
theorem dX5_firstNeedless_2 : decode cX5_firstNeedless 2 = .ok (.iload_n 1, 1) := by decide +kernel
theorem dX5_firstNeedless_3 : decode cX5_firstNeedless 3 = .ok (.aload_n 0, 1) := by decide +kernel
theorem dX5_firstNeedless_4 : decode cX5_firstNeedless 4 = .ok (.getfield 15, 3) := by decide +kernel
theorem dX5_firstNeedless_7 : decode cX5_firstNeedless 7 = .ok (.if_icmp .ge 27, 3) := by decide +kernel
theorem dX5_firstNeedless_10 : decode cX5_firstNeedless 10 = .ok (.aload_n 0, 1) := by decide +kernel
theorem dX5_firstNeedless_11 : decode cX5_firstNeedless 11 = .ok (.aload_n 0, 1) := by decide +kernel
theorem dX5_firstNeedless_12 : decode cX5_firstNeedless 12 = .ok (.getfield 25, 3) := by decide +kernel
theorem dX5_firstNeedless_15 : decode cX5_firstNeedless 15 = .ok (.iload_n 1, 1) := by decide +kernel
theorem dX5_firstNeedless_16 : decode cX5_firstNeedless 16 = .ok (.invokevirtual 59, 3) := by decide +kernel
theorem dX5_firstNeedless_19 : decode cX5_firstNeedless 19 = .ok (.aload_n 0, 1) := by decide +kernel
theorem dX5_firstNeedless_20 : decode cX5_firstNeedless 20 = .ok (.getfield 19, 3) := by decide +kernel
theorem dX5_firstNeedless_23 : decode cX5_firstNeedless 23 = .ok (.if_icmp .ne 5, 3) := by decide +kernel
theorem dX5_firstNeedless_26 : decode cX5_firstNeedless 26 = .ok (.iload_n 1, 1) := by decide +kernel
theorem dX5_firstNeedless_27 : decode cX5_firstNeedless 27 = .ok (.ireturn, 1) := by decide +kernel
theorem dX5_firstNeedless_28 : decode cX5_firstNeedless 28 = .ok (.iinc 1 1, 3) := by decide +kernel
theorem dX5_firstNeedless_31 : decode cX5_firstNeedless 31 = .ok (.goto (-29), 3) := by decide +kernel
theorem dX5_firstNeedless_34 : decode cX5_firstNeedless 34 = .ok (.bipush (-5), 2) := by decide +kernel
theorem dX5_firstNeedless_36 : decode cX5_firstNeedless 36 = .ok (.ireturn, 1) := by decide +kernel
theorem dX6_init_0 : decode cX6_init 0 = .ok (.aload_n 0, 1) := by decide +kernel
theorem dX6_init_1 : decode cX6_init 1 = .ok (.invokespecial 3, 3) := by decide +kernel
theorem dX6_init_4 : decode cX6_init 4 = .ok (.aload_n 0, 1) := by decide +kernel
theorem dX6_init_5 : decode cX6_init 5 = .ok (.bipush 60, 2) := by decide +kernel
theorem dX6_init_7 : decode cX6_init 7 = .ok (.newarray .char, 2) := by decide +kernel
theorem dX6_init_9 : decode cX6_init 9 = .ok (.putfield 9, 3) := by decide +kernel
theorem dX6_init_12 : decode cX6_init 12 = .ok (.aload_n 0, 1) := by decide +kernel
theorem dX6_init_13 : decode cX6_init 13 = .ok (.iconst 0, 1) := by decide +kernel
theorem dX6_init_14 : decode cX6_init 14 = .ok (.putfield 15, 3) := by decide +kernel
theorem dX6_init_17 : decode cX6_init 17 = .ok (.aload_n 0, 1) := by decide +kernel
theorem dX6_init_18 : decode cX6_init 18 = .ok (.iconst 0, 1) := by decide +kernel
theorem dX6_init_19 : decode cX6_init 19 = .ok (.putfield 19, 3) := by decide +kernel
theorem dX6_init_22 : decode cX6_init 22 = .ok (.aload_n 0, 1) := by decide +kernel
theorem dX6_init_23 : decode cX6_init 23 = .ok (.iconst (-1), 1) := by decide +kernel
theorem dX6_init_24 : decode cX6_init 24 = .ok (.putfield 22, 3) := by decide +kernel
theorem dX6_init_27 : decode cX6_init 27 = .ok (.aload_n 0, 1) := by decide +kernel
theorem dX6_init_28 : decode cX6_init 28 = .ok (.bipush 8, 2) := by decide +kernel
theorem dX6_init_30 : decode cX6_init 30 = .ok (.newarray .int, 2) := by decide +kernel
theorem dX6_init_32 : decode cX6_init 32 = .ok (.putfield 25, 3) := by decide +kernel
theorem dX6_init_35 : decode cX6_init 35 = .ok (.aload_n 0, 1) := by decide +kernel
theorem dX6_init_36 : decode cX6_init 36 = .ok (.iconst 0, 1) := by decide +kernel
theorem dX6_init_37 : decode cX6_init 37 = .ok (.putfield 29, 3) := by decide +kernel
theorem dX6_init_40 : decode cX6_init 40 = .ok (.aload_n 0, 1) := by decide +kernel
theorem dX6_init_41 : decode cX6_init 41 = .ok (.iconst 0, 1) := by decide +kernel
theorem dX6_init_42 : decode cX6_init 42 = .ok (.putfield 32, 3) := by decide +kernel
theorem dX6_init_45 : decode cX6_init 45 = .ok (.return_, 1) := by decide +kernel
theorem dX6_append_0 : decode cX6_append 0 = .ok (.aload_n 0, 1) := by decide +kernel
theorem dX6_append_1 : decode cX6_append 1 = .ok (.getfield 15, 3) := by decide +kernel
theorem dX6_append_4 : decode cX6_append 4 = .ok (.bipush 60, 2) := by decide +kernel
theorem dX6_append_6 : decode cX6_append 6 = .ok (.if_icmp .lt 6, 3) := by decide +kernel
theorem dX6_append_9 : decode cX6_append 9 = .ok (.bipush (-3), 2) := by decide +kernel
theorem dX6_append_11 : decode cX6_append 11 = .ok (.ireturn, 1) := by decide +kernel
theorem dX6_append_12 : decode cX6_append 12 = .ok (.aload_n 0, 1) := by decide +kernel
theorem dX6_append_13 : decode cX6_append 13 = .ok (.getfield 9, 3) := by decide +kernel
theorem dX6_append_16 : decode cX6_append 16 = .ok (.aload_n 0, 1) := by decide +kernel
theorem dX6_append_17 : decode cX6_append 17 = .ok (.getfield 15, 3) := by decide +kernel
theorem dX6_append_20 : decode cX6_append 20 = .ok (.iload_n 1, 1) := by decide +kernel
theorem dX6_append_21 : decode cX6_append 21 = .ok (.castore, 1) := by decide +kernel
theorem dX6_append_22 : decode cX6_append 22 = .ok (.aload_n 0, 1) := by decide +kernel
theorem dX6_append_23 : decode cX6_append 23 = .ok (.dup, 1) := by decide +kernel
theorem dX6_append_24 : decode cX6_append 24 = .ok (.getfield 15, 3) := by decide +kernel
theorem dX6_append_27 : decode cX6_append 27 = .ok (.iconst 1, 1) := by decide +kernel
theorem dX6_append_28 : decode cX6_append 28 = .ok (.iadd, 1) := by decide +kernel
theorem dX6_append_29 : decode cX6_append 29 = .ok (.putfield 15, 3) := by decide +kernel
theorem dX6_append_32 : decode cX6_append 32 = .ok (.aload_n 0, 1) := by decide +kernel
theorem dX6_append_33 : decode cX6_append 33 = .ok (.getfield 15, 3) := by decide +kernel
theorem dX6_append_36 : decode cX6_append 36 = .ok (.ireturn, 1) := by decide +kernel
theorem dX6_empty_0 : decode cX6_empty 0 = .ok (.aload_n 0, 1) := by decide +kernel
theorem dX6_empty_1 : decode cX6_empty 1 = .ok (.getfield 15, 3) := by decide +kernel
theorem dX6_empty_4 : decode cX6_empty 4 = .ok (.istore_n 1, 1) := by decide +kernel
theorem dX6_empty_5 : decode cX6_empty 5 = .ok (.aload_n 0, 1) := by decide +kernel
theorem dX6_empty_6 : decode cX6_empty 6 = .ok (.iconst 0, 1) := by decide +kernel
theorem dX6_empty_7 : decode cX6_empty 7 = .ok (.putfield 15, 3) := by decide +kernel
theorem dX6_empty_10 : decode cX6_empty 10 = .ok (.iload_n 1, 1) := by decide +kernel
theorem dX6_empty_11 : decode cX6_empty 11 = .ok (.ireturn, 1) := by decide +kernel
theorem dX6_start_0 : decode cX6_start 0 = .ok (.aload_n 0, 1) := by decide +kernel
theorem dX6_start_1 : decode cX6_start 1 = .ok (.iconst 0, 1) := by decide +kernel
theorem dX6_start_2 : decode cX6_start 2 = .ok (.putfield 19, 3) := by decide +kernel
theorem dX6_start_5 : decode cX6_start 5 = .ok (.return_, 1) := by decide +kernel
theorem dX6_findFault_0 : decode cX6_findFault 0 = .ok (.aload_n 0, 1) := by decide +kernel
theorem dX6_findFault_1 : decode cX6_findFault 1 = .ok (.invokevirtual 35, 3) := by decide +kernel
theorem dX6_findFault_4 : decode cX6_findFault 4 = .ok (.iconst 0, 1) := by decide +kernel
theorem dX6_findFault_5 : decode cX6_findFault 5 = .ok (.istore_n 1, 1) := by decide +kernel
theorem dX6_findFault_6 : decode cX6_findFault 6 = .ok (.iload_n 1, 1) := by decide +kernel
theorem dX6_findFault_7 : decode cX6_findFault 7 = .ok (.bipush 60, 2) := by decide +kernel
theorem dX6_findFault_9 : decode cX6_findFault 9 = .ok (.if_icmp .gt 49, 3) := by decide +kernel
theorem dX6_findFault_12 : decode cX6_findFault 12 = .ok (.aload_n 0, 1) := by decide +kernel
theorem dX6_findFault_13 : decode cX6_findFault 13 = .ok (.invokevirtual 38, 3) := by decide +kernel
theorem dX6_findFault_16 : decode cX6_findFault 16 = .ok (.ifCond .ne 8, 3) := by decide +kernel
theorem dX6_findFault_19 : decode cX6_findFault 19 = .ok (.aload_n 0, 1) := by decide +kernel
theorem dX6_findFault_20 : decode cX6_findFault 20 = .ok (.getfield 19, 3) := by decide +kernel
theorem dX6_findFault_23 : decode cX6_findFault 23 = .ok (.ireturn, 1) := by decide +kernel
theorem dX6_findFault_24 : decode cX6_findFault 24 = .ok (.aload_n 0, 1) := by decide +kernel
theorem dX6_findFault_25 : decode cX6_findFault 25 = .ok (.getfield 19, 3) := by decide +kernel
theorem dX6_findFault_28 : decode cX6_findFault 28 = .ok (.aload_n 0, 1) := by decide +kernel
theorem dX6_findFault_29 : decode cX6_findFault 29 = .ok (.getfield 15, 3) := by decide +kernel
theorem dX6_findFault_32 : decode cX6_findFault 32 = .ok (.if_icmp .lt 6, 3) := by decide +kernel
theorem dX6_findFault_35 : decode cX6_findFault 35 = .ok (.bipush (-5), 2) := by decide +kernel
theorem dX6_findFault_37 : decode cX6_findFault 37 = .ok (.ireturn, 1) := by decide +kernel
theorem dX6_findFault_38 : decode cX6_findFault 38 = .ok (.aload_n 0, 1) := by decide +kernel
theorem dX6_findFault_39 : decode cX6_findFault 39 = .ok (.bipush 59, 2) := by decide +kernel
theorem dX6_findFault_41 : decode cX6_findFault 41 = .ok (.invokevirtual 42, 3) := by decide +kernel
theorem dX6_findFault_44 : decode cX6_findFault 44 = .ok (.ifCond .ne 8, 3) := by decide +kernel
theorem dX6_findFault_47 : decode cX6_findFault 47 = .ok (.aload_n 0, 1) := by decide +kernel
theorem dX6_findFault_48 : decode cX6_findFault 48 = .ok (.getfield 19, 3) := by decide +kernel
theorem dX6_findFault_51 : decode cX6_findFault 51 = .ok (.ireturn, 1) := by decide +kernel
theorem dX6_findFault_52 : decode cX6_findFault 52 = .ok (.iinc 1 1, 3) := by decide +kernel
theorem dX6_findFault_55 : decode cX6_findFault 55 = .ok (.goto (-49), 3) := by decide +kernel
theorem dX6_findFault_58 : decode cX6_findFault 58 = .ok (.aload_n 0, 1) := by decide +kernel
theorem dX6_findFault_59 : decode cX6_findFault 59 = .ok (.getfield 19, 3) := by decide +kernel
theorem dX6_findFault_62 : decode cX6_findFault 62 = .ok (.ireturn, 1) := by decide +kernel
theorem dX6_readOrder_0 : decode cX6_readOrder 0 = .ok (.aload_n 0, 1) := by decide +kernel
theorem dX6_readOrder_1 : decode cX6_readOrder 1 = .ok (.invokevirtual 46, 3) := by decide +kernel
theorem dX6_readOrder_4 : decode cX6_readOrder 4 = .ok (.ifCond .eq 12, 3) := by decide +kernel
theorem dX6_readOrder_7 : decode cX6_readOrder 7 = .ok (.aload_n 0, 1) := by decide +kernel
theorem dX6_readOrder_8 : decode cX6_readOrder 8 = .ok (.bipush 61, 2) := by decide +kernel
theorem dX6_readOrder_10 : decode cX6_readOrder 10 = .ok (.invokevirtual 42, 3) := by decide +kernel
theorem dX6_readOrder_13 : decode cX6_readOrder 13 = .ok (.ifCond .ne 5, 3) := by decide +kernel
theorem dX6_readOrder_16 : decode cX6_readOrder 16 = .ok (.iconst 0, 1) := by decide +kernel
theorem dX6_readOrder_17 : decode cX6_readOrder 17 = .ok (.ireturn, 1) := by decide +kernel
theorem dX6_readOrder_18 : decode cX6_readOrder 18 = .ok (.aload_n 0, 1) := by decide +kernel
theorem dX6_readOrder_19 : decode cX6_readOrder 19 = .ok (.getfield 22, 3) := by decide +kernel
theorem dX6_readOrder_22 : decode cX6_readOrder 22 = .ok (.tableswitch 65 3 5 #[26, 36, 31], 26) := by decide +kernel
theorem dX6_readOrder_48 : decode cX6_readOrder 48 = .ok (.aload_n 0, 1) := by decide +kernel
theorem dX6_readOrder_49 : decode cX6_readOrder 49 = .ok (.invokevirtual 49, 3) := by decide +kernel
theorem dX6_readOrder_52 : decode cX6_readOrder 52 = .ok (.ireturn, 1) := by decide +kernel
theorem dX6_readOrder_53 : decode cX6_readOrder 53 = .ok (.aload_n 0, 1) := by decide +kernel
theorem dX6_readOrder_54 : decode cX6_readOrder 54 = .ok (.invokevirtual 52, 3) := by decide +kernel
theorem dX6_readOrder_57 : decode cX6_readOrder 57 = .ok (.ireturn, 1) := by decide +kernel
theorem dX6_readOrder_58 : decode cX6_readOrder 58 = .ok (.aload_n 0, 1) := by decide +kernel
theorem dX6_readOrder_59 : decode cX6_readOrder 59 = .ok (.invokevirtual 52, 3) := by decide +kernel
theorem dX6_readOrder_62 : decode cX6_readOrder 62 = .ok (.ifCond .eq 23, 3) := by decide +kernel
theorem dX6_readOrder_65 : decode cX6_readOrder 65 = .ok (.aload_n 0, 1) := by decide +kernel
theorem dX6_readOrder_66 : decode cX6_readOrder 66 = .ok (.bipush 62, 2) := by decide +kernel
theorem dX6_readOrder_68 : decode cX6_readOrder 68 = .ok (.invokevirtual 42, 3) := by decide +kernel
theorem dX6_readOrder_71 : decode cX6_readOrder 71 = .ok (.ifCond .eq 14, 3) := by decide +kernel
theorem dX6_readOrder_74 : decode cX6_readOrder 74 = .ok (.aload_n 0, 1) := by decide +kernel
theorem dX6_readOrder_75 : decode cX6_readOrder 75 = .ok (.invokevirtual 55, 3) := by decide +kernel
theorem dX6_readOrder_78 : decode cX6_readOrder 78 = .ok (.ifCond .eq 7, 3) := by decide +kernel
theorem dX6_readOrder_81 : decode cX6_readOrder 81 = .ok (.iconst 1, 1) := by decide +kernel
theorem dX6_readOrder_82 : decode cX6_readOrder 82 = .ok (.goto 4, 3) := by decide +kernel
theorem dX6_readOrder_85 : decode cX6_readOrder 85 = .ok (.iconst 0, 1) := by decide +kernel
theorem dX6_readOrder_86 : decode cX6_readOrder 86 = .ok (.ireturn, 1) := by decide +kernel
theorem dX6_readOrder_87 : decode cX6_readOrder 87 = .ok (.aload_n 0, 1) := by decide +kernel
theorem dX6_readOrder_88 : decode cX6_readOrder 88 = .ok (.invokevirtual 58, 3) := by decide +kernel
theorem dX6_readOrder_91 : decode cX6_readOrder 91 = .ok (.ireturn, 1) := by decide +kernel
theorem dX6_skip_0 : decode cX6_skip 0 = .ok (.aload_n 0, 1) := by decide +kernel
theorem dX6_skip_1 : decode cX6_skip 1 = .ok (.getfield 19, 3) := by decide +kernel
theorem dX6_skip_4 : decode cX6_skip 4 = .ok (.aload_n 0, 1) := by decide +kernel
theorem dX6_skip_5 : decode cX6_skip 5 = .ok (.getfield 15, 3) := by decide +kernel
theorem dX6_skip_8 : decode cX6_skip 8 = .ok (.if_icmp .ge 16, 3) := by decide +kernel
theorem dX6_skip_11 : decode cX6_skip 11 = .ok (.aload_n 0, 1) := by decide +kernel
theorem dX6_skip_12 : decode cX6_skip 12 = .ok (.getfield 9, 3) := by decide +kernel
theorem dX6_skip_15 : decode cX6_skip 15 = .ok (.aload_n 0, 1) := by decide +kernel
theorem dX6_skip_16 : decode cX6_skip 16 = .ok (.getfield 19, 3) := by decide +kernel
theorem dX6_skip_19 : decode cX6_skip 19 = .ok (.caload, 1) := by decide +kernel
theorem dX6_skip_20 : decode cX6_skip 20 = .ok (.iload_n 1, 1) := by decide +kernel
theorem dX6_skip_21 : decode cX6_skip 21 = .ok (.if_icmp .eq 5, 3) := by decide +kernel
theorem dX6_skip_24 : decode cX6_skip 24 = .ok (.iconst 0, 1) := by decide +kernel
theorem dX6_skip_25 : decode cX6_skip 25 = .ok (.ireturn, 1) := by decide +kernel
theorem dX6_skip_26 : decode cX6_skip 26 = .ok (.aload_n 0, 1) := by decide +kernel
theorem dX6_skip_27 : decode cX6_skip 27 = .ok (.dup, 1) := by decide +kernel
theorem dX6_skip_28 : decode cX6_skip 28 = .ok (.getfield 19, 3) := by decide +kernel
theorem dX6_skip_31 : decode cX6_skip 31 = .ok (.iconst 1, 1) := by decide +kernel
theorem dX6_skip_32 : decode cX6_skip 32 = .ok (.iadd, 1) := by decide +kernel
theorem dX6_skip_33 : decode cX6_skip 33 = .ok (.putfield 19, 3) := by decide +kernel
theorem dX6_skip_36 : decode cX6_skip 36 = .ok (.iconst 1, 1) := by decide +kernel
theorem dX6_skip_37 : decode cX6_skip 37 = .ok (.ireturn, 1) := by decide +kernel
theorem dX6_readWord_0 : decode cX6_readWord 0 = .ok (.aload_n 0, 1) := by decide +kernel
theorem dX6_readWord_1 : decode cX6_readWord 1 = .ok (.aload_n 0, 1) := by decide +kernel
theorem dX6_readWord_2 : decode cX6_readWord 2 = .ok (.getfield 19, 3) := by decide +kernel
theorem dX6_readWord_5 : decode cX6_readWord 5 = .ok (.aload_n 0, 1) := by decide +kernel
theorem dX6_readWord_6 : decode cX6_readWord 6 = .ok (.getfield 15, 3) := by decide +kernel
theorem dX6_readWord_9 : decode cX6_readWord 9 = .ok (.if_icmp .ge 18, 3) := by decide +kernel
theorem dX6_readWord_12 : decode cX6_readWord 12 = .ok (.aload_n 0, 1) := by decide +kernel
theorem dX6_readWord_13 : decode cX6_readWord 13 = .ok (.getfield 9, 3) := by decide +kernel
theorem dX6_readWord_16 : decode cX6_readWord 16 = .ok (.aload_n 0, 1) := by decide +kernel
theorem dX6_readWord_17 : decode cX6_readWord 17 = .ok (.getfield 19, 3) := by decide +kernel
theorem dX6_readWord_20 : decode cX6_readWord 20 = .ok (.caload, 1) := by decide +kernel
theorem dX6_readWord_21 : decode cX6_readWord 21 = .ok (.invokestatic 61, 3) := by decide +kernel
theorem dX6_readWord_24 : decode cX6_readWord 24 = .ok (.goto 4, 3) := by decide +kernel
theorem dX6_readWord_27 : decode cX6_readWord 27 = .ok (.iconst (-1), 1) := by decide +kernel
theorem dX6_readWord_28 : decode cX6_readWord 28 = .ok (.putfield 22, 3) := by decide +kernel
theorem dX6_readWord_31 : decode cX6_readWord 31 = .ok (.aload_n 0, 1) := by decide +kernel
theorem dX6_readWord_32 : decode cX6_readWord 32 = .ok (.getfield 22, 3) := by decide +kernel
theorem dX6_readWord_35 : decode cX6_readWord 35 = .ok (.invokestatic 65, 3) := by decide +kernel
theorem dX6_readWord_38 : decode cX6_readWord 38 = .ok (.astore_n 1, 1) := by decide +kernel
theorem dX6_readWord_39 : decode cX6_readWord 39 = .ok (.iconst 0, 1) := by decide +kernel
theorem dX6_readWord_40 : decode cX6_readWord 40 = .ok (.istore_n 2, 1) := by decide +kernel
theorem dX6_readWord_41 : decode cX6_readWord 41 = .ok (.iload_n 2, 1) := by decide +kernel
theorem dX6_readWord_42 : decode cX6_readWord 42 = .ok (.aload_n 1, 1) := by decide +kernel
theorem dX6_readWord_43 : decode cX6_readWord 43 = .ok (.invokevirtual 69, 3) := by decide +kernel
theorem dX6_readWord_46 : decode cX6_readWord 46 = .ok (.if_icmp .ge 23, 3) := by decide +kernel
theorem dX6_readWord_49 : decode cX6_readWord 49 = .ok (.aload_n 0, 1) := by decide +kernel
theorem dX6_readWord_50 : decode cX6_readWord 50 = .ok (.aload_n 1, 1) := by decide +kernel
theorem dX6_readWord_51 : decode cX6_readWord 51 = .ok (.iload_n 2, 1) := by decide +kernel
theorem dX6_readWord_52 : decode cX6_readWord 52 = .ok (.invokevirtual 74, 3) := by decide +kernel
theorem dX6_readWord_55 : decode cX6_readWord 55 = .ok (.invokevirtual 42, 3) := by decide +kernel
theorem dX6_readWord_58 : decode cX6_readWord 58 = .ok (.ifCond .ne 5, 3) := by decide +kernel
theorem dX6_readWord_61 : decode cX6_readWord 61 = .ok (.iconst 0, 1) := by decide +kernel
theorem dX6_readWord_62 : decode cX6_readWord 62 = .ok (.ireturn, 1) := by decide +kernel
theorem dX6_readWord_63 : decode cX6_readWord 63 = .ok (.iinc 2 1, 3) := by decide +kernel
theorem dX6_readWord_66 : decode cX6_readWord 66 = .ok (.goto (-25), 3) := by decide +kernel
theorem dX6_readWord_69 : decode cX6_readWord 69 = .ok (.aload_n 0, 1) := by decide +kernel
theorem dX6_readWord_70 : decode cX6_readWord 70 = .ok (.getfield 22, 3) := by decide +kernel
theorem dX6_readWord_73 : decode cX6_readWord 73 = .ok (.iconst (-1), 1) := by decide +kernel
theorem dX6_readWord_74 : decode cX6_readWord 74 = .ok (.if_icmp .eq 7, 3) := by decide +kernel
theorem dX6_readWord_77 : decode cX6_readWord 77 = .ok (.iconst 1, 1) := by decide +kernel
theorem dX6_readWord_78 : decode cX6_readWord 78 = .ok (.goto 4, 3) := by decide +kernel
theorem dX6_readWord_81 : decode cX6_readWord 81 = .ok (.iconst 0, 1) := by decide +kernel
theorem dX6_readWord_82 : decode cX6_readWord 82 = .ok (.ireturn, 1) := by decide +kernel
theorem dX6_wordWith_0 : decode cX6_wordWith 0 = .ok (.iload_n 0, 1) := by decide +kernel
theorem dX6_wordWith_1 : decode cX6_wordWith 1 = .ok (.tableswitch 107 100 119 #[101, 107, 107, 107, 107, 107, 95, 107, 107, 105, 107, 107, 103, 107, 97, 107, 107, 107, 107, 99], 95) := by decide +kernel
theorem dX6_wordWith_96 : decode cX6_wordWith 96 = .ok (.iconst 0, 1) := by decide +kernel
theorem dX6_wordWith_97 : decode cX6_wordWith 97 = .ok (.ireturn, 1) := by decide +kernel
theorem dX6_wordWith_98 : decode cX6_wordWith 98 = .ok (.iconst 1, 1) := by decide +kernel
theorem dX6_wordWith_99 : decode cX6_wordWith 99 = .ok (.ireturn, 1) := by decide +kernel
theorem dX6_wordWith_100 : decode cX6_wordWith 100 = .ok (.iconst 2, 1) := by decide +kernel
theorem dX6_wordWith_101 : decode cX6_wordWith 101 = .ok (.ireturn, 1) := by decide +kernel
theorem dX6_wordWith_102 : decode cX6_wordWith 102 = .ok (.iconst 3, 1) := by decide +kernel
theorem dX6_wordWith_103 : decode cX6_wordWith 103 = .ok (.ireturn, 1) := by decide +kernel
theorem dX6_wordWith_104 : decode cX6_wordWith 104 = .ok (.iconst 4, 1) := by decide +kernel
theorem dX6_wordWith_105 : decode cX6_wordWith 105 = .ok (.ireturn, 1) := by decide +kernel
theorem dX6_wordWith_106 : decode cX6_wordWith 106 = .ok (.iconst 5, 1) := by decide +kernel
theorem dX6_wordWith_107 : decode cX6_wordWith 107 = .ok (.ireturn, 1) := by decide +kernel
theorem dX6_wordWith_108 : decode cX6_wordWith 108 = .ok (.iconst (-1), 1) := by decide +kernel
theorem dX6_wordWith_109 : decode cX6_wordWith 109 = .ok (.ireturn, 1) := by decide +kernel
theorem dX6_lettersOf_0 : decode cX6_lettersOf 0 = .ok (.iload_n 0, 1) := by decide +kernel
theorem dX6_lettersOf_1 : decode cX6_lettersOf 1 = .ok (.tableswitch 57 0 5 #[39, 42, 45, 48, 51, 54], 39) := by decide +kernel
theorem dX6_lettersOf_40 : decode cX6_lettersOf 40 = .ok (.ldc 78, 2) := by decide +kernel
theorem dX6_lettersOf_42 : decode cX6_lettersOf 42 = .ok (.areturn, 1) := by decide +kernel
theorem dX6_lettersOf_43 : decode cX6_lettersOf 43 = .ok (.ldc 80, 2) := by decide +kernel
theorem dX6_lettersOf_45 : decode cX6_lettersOf 45 = .ok (.areturn, 1) := by decide +kernel
theorem dX6_lettersOf_46 : decode cX6_lettersOf 46 = .ok (.ldc 82, 2) := by decide +kernel
theorem dX6_lettersOf_48 : decode cX6_lettersOf 48 = .ok (.areturn, 1) := by decide +kernel
theorem dX6_lettersOf_49 : decode cX6_lettersOf 49 = .ok (.ldc 84, 2) := by decide +kernel
theorem dX6_lettersOf_51 : decode cX6_lettersOf 51 = .ok (.areturn, 1) := by decide +kernel
theorem dX6_lettersOf_52 : decode cX6_lettersOf 52 = .ok (.ldc 86, 2) := by decide +kernel
theorem dX6_lettersOf_54 : decode cX6_lettersOf 54 = .ok (.areturn, 1) := by decide +kernel
theorem dX6_lettersOf_55 : decode cX6_lettersOf 55 = .ok (.ldc 88, 2) := by decide +kernel
theorem dX6_lettersOf_57 : decode cX6_lettersOf 57 = .ok (.areturn, 1) := by decide +kernel
theorem dX6_lettersOf_58 : decode cX6_lettersOf 58 = .ok (.ldc 90, 2) := by decide +kernel
theorem dX6_lettersOf_60 : decode cX6_lettersOf 60 = .ok (.areturn, 1) := by decide +kernel
theorem dX6_readMix_0 : decode cX6_readMix 0 = .ok (.aload_n 0, 1) := by decide +kernel
theorem dX6_readMix_1 : decode cX6_readMix 1 = .ok (.getfield 25, 3) := by decide +kernel
theorem dX6_readMix_4 : decode cX6_readMix 4 = .ok (.iconst 0, 1) := by decide +kernel
theorem dX6_readMix_5 : decode cX6_readMix 5 = .ok (.invokestatic 92, 3) := by decide +kernel
theorem dX6_readMix_8 : decode cX6_readMix 8 = .ok (.aload_n 0, 1) := by decide +kernel
theorem dX6_readMix_9 : decode cX6_readMix 9 = .ok (.getfield 19, 3) := by decide +kernel
theorem dX6_readMix_12 : decode cX6_readMix 12 = .ok (.istore_n 1, 1) := by decide +kernel
theorem dX6_readMix_13 : decode cX6_readMix 13 = .ok (.iconst 0, 1) := by decide +kernel
theorem dX6_readMix_14 : decode cX6_readMix 14 = .ok (.istore_n 2, 1) := by decide +kernel
theorem dX6_readMix_15 : decode cX6_readMix 15 = .ok (.iload_n 2, 1) := by decide +kernel
theorem dX6_readMix_16 : decode cX6_readMix 16 = .ok (.bipush 60, 2) := by decide +kernel
theorem dX6_readMix_18 : decode cX6_readMix 18 = .ok (.if_icmp .ge 72, 3) := by decide +kernel
theorem dX6_readMix_21 : decode cX6_readMix 21 = .ok (.aload_n 0, 1) := by decide +kernel
theorem dX6_readMix_22 : decode cX6_readMix 22 = .ok (.invokevirtual 98, 3) := by decide +kernel
theorem dX6_readMix_25 : decode cX6_readMix 25 = .ok (.ifCond .lt 65, 3) := by decide +kernel
theorem dX6_readMix_28 : decode cX6_readMix 28 = .ok (.aload_n 0, 1) := by decide +kernel
theorem dX6_readMix_29 : decode cX6_readMix 29 = .ok (.invokevirtual 98, 3) := by decide +kernel
theorem dX6_readMix_32 : decode cX6_readMix 32 = .ok (.istore_n 3, 1) := by decide +kernel
theorem dX6_readMix_33 : decode cX6_readMix 33 = .ok (.aload_n 0, 1) := by decide +kernel
theorem dX6_readMix_34 : decode cX6_readMix 34 = .ok (.dup, 1) := by decide +kernel
theorem dX6_readMix_35 : decode cX6_readMix 35 = .ok (.getfield 19, 3) := by decide +kernel
theorem dX6_readMix_38 : decode cX6_readMix 38 = .ok (.iconst 1, 1) := by decide +kernel
theorem dX6_readMix_39 : decode cX6_readMix 39 = .ok (.iadd, 1) := by decide +kernel
theorem dX6_readMix_40 : decode cX6_readMix 40 = .ok (.putfield 19, 3) := by decide +kernel
theorem dX6_readMix_43 : decode cX6_readMix 43 = .ok (.aload_n 0, 1) := by decide +kernel
theorem dX6_readMix_44 : decode cX6_readMix 44 = .ok (.invokevirtual 101, 3) := by decide +kernel
theorem dX6_readMix_47 : decode cX6_readMix 47 = .ok (.istore 4, 2) := by decide +kernel
theorem dX6_readMix_49 : decode cX6_readMix 49 = .ok (.iload 4, 2) := by decide +kernel
theorem dX6_readMix_51 : decode cX6_readMix 51 = .ok (.ifCond .le 13, 3) := by decide +kernel
theorem dX6_readMix_54 : decode cX6_readMix 54 = .ok (.aload_n 0, 1) := by decide +kernel
theorem dX6_readMix_55 : decode cX6_readMix 55 = .ok (.dup, 1) := by decide +kernel
theorem dX6_readMix_56 : decode cX6_readMix 56 = .ok (.getfield 19, 3) := by decide +kernel
theorem dX6_readMix_59 : decode cX6_readMix 59 = .ok (.iconst 1, 1) := by decide +kernel
theorem dX6_readMix_60 : decode cX6_readMix 60 = .ok (.iadd, 1) := by decide +kernel
theorem dX6_readMix_61 : decode cX6_readMix 61 = .ok (.putfield 19, 3) := by decide +kernel
theorem dX6_readMix_64 : decode cX6_readMix 64 = .ok (.aload_n 0, 1) := by decide +kernel
theorem dX6_readMix_65 : decode cX6_readMix 65 = .ok (.getfield 25, 3) := by decide +kernel
theorem dX6_readMix_68 : decode cX6_readMix 68 = .ok (.iload_n 3, 1) := by decide +kernel
theorem dX6_readMix_69 : decode cX6_readMix 69 = .ok (.dup2, 1) := by decide +kernel
theorem dX6_readMix_70 : decode cX6_readMix 70 = .ok (.iaload, 1) := by decide +kernel
theorem dX6_readMix_71 : decode cX6_readMix 71 = .ok (.iload 4, 2) := by decide +kernel
theorem dX6_readMix_73 : decode cX6_readMix 73 = .ok (.ifCond .le 8, 3) := by decide +kernel
theorem dX6_readMix_76 : decode cX6_readMix 76 = .ok (.iload 4, 2) := by decide +kernel
theorem dX6_readMix_78 : decode cX6_readMix 78 = .ok (.goto 4, 3) := by decide +kernel
theorem dX6_readMix_81 : decode cX6_readMix 81 = .ok (.iconst 1, 1) := by decide +kernel
theorem dX6_readMix_82 : decode cX6_readMix 82 = .ok (.iadd, 1) := by decide +kernel
theorem dX6_readMix_83 : decode cX6_readMix 83 = .ok (.iastore, 1) := by decide +kernel
theorem dX6_readMix_84 : decode cX6_readMix 84 = .ok (.iinc 2 1, 3) := by decide +kernel
theorem dX6_readMix_87 : decode cX6_readMix 87 = .ok (.goto (-72), 3) := by decide +kernel
theorem dX6_readMix_90 : decode cX6_readMix 90 = .ok (.aload_n 0, 1) := by decide +kernel
theorem dX6_readMix_91 : decode cX6_readMix 91 = .ok (.getfield 19, 3) := by decide +kernel
theorem dX6_readMix_94 : decode cX6_readMix 94 = .ok (.iload_n 1, 1) := by decide +kernel
theorem dX6_readMix_95 : decode cX6_readMix 95 = .ok (.if_icmp .le 7, 3) := by decide +kernel
theorem dX6_readMix_98 : decode cX6_readMix 98 = .ok (.iconst 1, 1) := by decide +kernel
theorem dX6_readMix_99 : decode cX6_readMix 99 = .ok (.goto 4, 3) := by decide +kernel
theorem dX6_readMix_102 : decode cX6_readMix 102 = .ok (.iconst 0, 1) := by decide +kernel
theorem dX6_readMix_103 : decode cX6_readMix 103 = .ok (.ireturn, 1) := by decide +kernel
theorem dX6_mixRead_0 : decode cX6_mixRead 0 = .ok (.iconst 0, 1) := by decide +kernel
theorem dX6_mixRead_1 : decode cX6_mixRead 1 = .ok (.istore_n 1, 1) := by decide +kernel
theorem dX6_mixRead_2 : decode cX6_mixRead 2 = .ok (.iconst 0, 1) := by decide +kernel
theorem dX6_mixRead_3 : decode cX6_mixRead 3 = .ok (.istore_n 2, 1) := by decide +kernel
theorem dX6_mixRead_4 : decode cX6_mixRead 4 = .ok (.iload_n 2, 1) := by decide +kernel
theorem dX6_mixRead_5 : decode cX6_mixRead 5 = .ok (.bipush 8, 2) := by decide +kernel
theorem dX6_mixRead_7 : decode cX6_mixRead 7 = .ok (.if_icmp .ge 26, 3) := by decide +kernel
theorem dX6_mixRead_10 : decode cX6_mixRead 10 = .ok (.iload_n 1, 1) := by decide +kernel
theorem dX6_mixRead_11 : decode cX6_mixRead 11 = .ok (.aload_n 0, 1) := by decide +kernel
theorem dX6_mixRead_12 : decode cX6_mixRead 12 = .ok (.getfield 25, 3) := by decide +kernel
theorem dX6_mixRead_15 : decode cX6_mixRead 15 = .ok (.iload_n 2, 1) := by decide +kernel
theorem dX6_mixRead_16 : decode cX6_mixRead 16 = .ok (.iaload, 1) := by decide +kernel
theorem dX6_mixRead_17 : decode cX6_mixRead 17 = .ok (.iconst 3, 1) := by decide +kernel
theorem dX6_mixRead_18 : decode cX6_mixRead 18 = .ok (.irem, 1) := by decide +kernel
theorem dX6_mixRead_19 : decode cX6_mixRead 19 = .ok (.getstatic 104, 3) := by decide +kernel
theorem dX6_mixRead_22 : decode cX6_mixRead 22 = .ok (.iload_n 2, 1) := by decide +kernel
theorem dX6_mixRead_23 : decode cX6_mixRead 23 = .ok (.iaload, 1) := by decide +kernel
theorem dX6_mixRead_24 : decode cX6_mixRead 24 = .ok (.imul, 1) := by decide +kernel
theorem dX6_mixRead_25 : decode cX6_mixRead 25 = .ok (.iadd, 1) := by decide +kernel
theorem dX6_mixRead_26 : decode cX6_mixRead 26 = .ok (.istore_n 1, 1) := by decide +kernel
theorem dX6_mixRead_27 : decode cX6_mixRead 27 = .ok (.iinc 2 1, 3) := by decide +kernel
theorem dX6_mixRead_30 : decode cX6_mixRead 30 = .ok (.goto (-26), 3) := by decide +kernel
theorem dX6_mixRead_33 : decode cX6_mixRead 33 = .ok (.iload_n 1, 1) := by decide +kernel
theorem dX6_mixRead_34 : decode cX6_mixRead 34 = .ok (.ireturn, 1) := by decide +kernel
theorem dX6_readRuleNumber_0 : decode cX6_readRuleNumber 0 = .ok (.aload_n 0, 1) := by decide +kernel
theorem dX6_readRuleNumber_1 : decode cX6_readRuleNumber 1 = .ok (.aload_n 0, 1) := by decide +kernel
theorem dX6_readRuleNumber_2 : decode cX6_readRuleNumber 2 = .ok (.invokevirtual 101, 3) := by decide +kernel
theorem dX6_readRuleNumber_5 : decode cX6_readRuleNumber 5 = .ok (.putfield 29, 3) := by decide +kernel
theorem dX6_readRuleNumber_8 : decode cX6_readRuleNumber 8 = .ok (.aload_n 0, 1) := by decide +kernel
theorem dX6_readRuleNumber_9 : decode cX6_readRuleNumber 9 = .ok (.getfield 29, 3) := by decide +kernel
theorem dX6_readRuleNumber_12 : decode cX6_readRuleNumber 12 = .ok (.ifCond .ge 5, 3) := by decide +kernel
theorem dX6_readRuleNumber_15 : decode cX6_readRuleNumber 15 = .ok (.iconst 0, 1) := by decide +kernel
theorem dX6_readRuleNumber_16 : decode cX6_readRuleNumber 16 = .ok (.ireturn, 1) := by decide +kernel
theorem dX6_readRuleNumber_17 : decode cX6_readRuleNumber 17 = .ok (.aload_n 0, 1) := by decide +kernel
theorem dX6_readRuleNumber_18 : decode cX6_readRuleNumber 18 = .ok (.dup, 1) := by decide +kernel
theorem dX6_readRuleNumber_19 : decode cX6_readRuleNumber 19 = .ok (.getfield 19, 3) := by decide +kernel
theorem dX6_readRuleNumber_22 : decode cX6_readRuleNumber 22 = .ok (.iconst 1, 1) := by decide +kernel
theorem dX6_readRuleNumber_23 : decode cX6_readRuleNumber 23 = .ok (.iadd, 1) := by decide +kernel
theorem dX6_readRuleNumber_24 : decode cX6_readRuleNumber 24 = .ok (.putfield 19, 3) := by decide +kernel
theorem dX6_readRuleNumber_27 : decode cX6_readRuleNumber 27 = .ok (.iconst 1, 1) := by decide +kernel
theorem dX6_readRuleNumber_28 : decode cX6_readRuleNumber 28 = .ok (.ireturn, 1) := by decide +kernel
theorem dX6_readFirst_0 : decode cX6_readFirst 0 = .ok (.aload_n 0, 1) := by decide +kernel
theorem dX6_readFirst_1 : decode cX6_readFirst 1 = .ok (.aload_n 0, 1) := by decide +kernel
theorem dX6_readFirst_2 : decode cX6_readFirst 2 = .ok (.invokevirtual 107, 3) := by decide +kernel
theorem dX6_readFirst_5 : decode cX6_readFirst 5 = .ok (.putfield 29, 3) := by decide +kernel
theorem dX6_readFirst_8 : decode cX6_readFirst 8 = .ok (.aload_n 0, 1) := by decide +kernel
theorem dX6_readFirst_9 : decode cX6_readFirst 9 = .ok (.getfield 29, 3) := by decide +kernel
theorem dX6_readFirst_12 : decode cX6_readFirst 12 = .ok (.ifCond .lt 7, 3) := by decide +kernel
theorem dX6_readFirst_15 : decode cX6_readFirst 15 = .ok (.iconst 1, 1) := by decide +kernel
theorem dX6_readFirst_16 : decode cX6_readFirst 16 = .ok (.goto 4, 3) := by decide +kernel
theorem dX6_readFirst_19 : decode cX6_readFirst 19 = .ok (.iconst 0, 1) := by decide +kernel
theorem dX6_readFirst_20 : decode cX6_readFirst 20 = .ok (.ireturn, 1) := by decide +kernel
theorem dX6_readSecond_0 : decode cX6_readSecond 0 = .ok (.aload_n 0, 1) := by decide +kernel
theorem dX6_readSecond_1 : decode cX6_readSecond 1 = .ok (.aload_n 0, 1) := by decide +kernel
theorem dX6_readSecond_2 : decode cX6_readSecond 2 = .ok (.invokevirtual 107, 3) := by decide +kernel
theorem dX6_readSecond_5 : decode cX6_readSecond 5 = .ok (.putfield 32, 3) := by decide +kernel
theorem dX6_readSecond_8 : decode cX6_readSecond 8 = .ok (.aload_n 0, 1) := by decide +kernel
theorem dX6_readSecond_9 : decode cX6_readSecond 9 = .ok (.getfield 32, 3) := by decide +kernel
theorem dX6_readSecond_12 : decode cX6_readSecond 12 = .ok (.ifCond .lt 7, 3) := by decide +kernel
theorem dX6_readSecond_15 : decode cX6_readSecond 15 = .ok (.iconst 1, 1) := by decide +kernel
theorem dX6_readSecond_16 : decode cX6_readSecond 16 = .ok (.goto 4, 3) := by decide +kernel
theorem dX6_readSecond_19 : decode cX6_readSecond 19 = .ok (.iconst 0, 1) := by decide +kernel
theorem dX6_readSecond_20 : decode cX6_readSecond 20 = .ok (.ireturn, 1) := by decide +kernel
theorem dX6_readJarNumber_0 : decode cX6_readJarNumber 0 = .ok (.aload_n 0, 1) := by decide +kernel
theorem dX6_readJarNumber_1 : decode cX6_readJarNumber 1 = .ok (.invokevirtual 101, 3) := by decide +kernel
theorem dX6_readJarNumber_4 : decode cX6_readJarNumber 4 = .ok (.istore_n 1, 1) := by decide +kernel
theorem dX6_readJarNumber_5 : decode cX6_readJarNumber 5 = .ok (.iload_n 1, 1) := by decide +kernel
theorem dX6_readJarNumber_6 : decode cX6_readJarNumber 6 = .ok (.ifCond .ge 6, 3) := by decide +kernel
theorem dX6_readJarNumber_9 : decode cX6_readJarNumber 9 = .ok (.bipush (-5), 2) := by decide +kernel
theorem dX6_readJarNumber_11 : decode cX6_readJarNumber 11 = .ok (.ireturn, 1) := by decide +kernel
theorem dX6_readJarNumber_12 : decode cX6_readJarNumber 12 = .ok (.aload_n 0, 1) := by decide +kernel
theorem dX6_readJarNumber_13 : decode cX6_readJarNumber 13 = .ok (.dup, 1) := by decide +kernel
theorem dX6_readJarNumber_14 : decode cX6_readJarNumber 14 = .ok (.getfield 19, 3) := by decide +kernel
theorem dX6_readJarNumber_17 : decode cX6_readJarNumber 17 = .ok (.iconst 1, 1) := by decide +kernel
theorem dX6_readJarNumber_18 : decode cX6_readJarNumber 18 = .ok (.iadd, 1) := by decide +kernel
theorem dX6_readJarNumber_19 : decode cX6_readJarNumber 19 = .ok (.putfield 19, 3) := by decide +kernel
theorem dX6_readJarNumber_22 : decode cX6_readJarNumber 22 = .ok (.iconst 0, 1) := by decide +kernel
theorem dX6_readJarNumber_23 : decode cX6_readJarNumber 23 = .ok (.istore_n 2, 1) := by decide +kernel
theorem dX6_readJarNumber_24 : decode cX6_readJarNumber 24 = .ok (.iload_n 2, 1) := by decide +kernel
theorem dX6_readJarNumber_25 : decode cX6_readJarNumber 25 = .ok (.bipush 60, 2) := by decide +kernel
theorem dX6_readJarNumber_27 : decode cX6_readJarNumber 27 = .ok (.if_icmp .ge 53, 3) := by decide +kernel
theorem dX6_readJarNumber_30 : decode cX6_readJarNumber 30 = .ok (.iload_n 1, 1) := by decide +kernel
theorem dX6_readJarNumber_31 : decode cX6_readJarNumber 31 = .ok (.ifCond .le 49, 3) := by decide +kernel
theorem dX6_readJarNumber_34 : decode cX6_readJarNumber 34 = .ok (.aload_n 0, 1) := by decide +kernel
theorem dX6_readJarNumber_35 : decode cX6_readJarNumber 35 = .ok (.invokevirtual 101, 3) := by decide +kernel
theorem dX6_readJarNumber_38 : decode cX6_readJarNumber 38 = .ok (.istore_n 3, 1) := by decide +kernel
theorem dX6_readJarNumber_39 : decode cX6_readJarNumber 39 = .ok (.iload_n 3, 1) := by decide +kernel
theorem dX6_readJarNumber_40 : decode cX6_readJarNumber 40 = .ok (.ifCond .lt 15, 3) := by decide +kernel
theorem dX6_readJarNumber_43 : decode cX6_readJarNumber 43 = .ok (.iload_n 1, 1) := by decide +kernel
theorem dX6_readJarNumber_44 : decode cX6_readJarNumber 44 = .ok (.bipush 10, 2) := by decide +kernel
theorem dX6_readJarNumber_46 : decode cX6_readJarNumber 46 = .ok (.imul, 1) := by decide +kernel
theorem dX6_readJarNumber_47 : decode cX6_readJarNumber 47 = .ok (.iload_n 3, 1) := by decide +kernel
theorem dX6_readJarNumber_48 : decode cX6_readJarNumber 48 = .ok (.iadd, 1) := by decide +kernel
theorem dX6_readJarNumber_49 : decode cX6_readJarNumber 49 = .ok (.sipush 200, 3) := by decide +kernel
theorem dX6_readJarNumber_52 : decode cX6_readJarNumber 52 = .ok (.if_icmp .lt 5, 3) := by decide +kernel
theorem dX6_readJarNumber_55 : decode cX6_readJarNumber 55 = .ok (.iload_n 1, 1) := by decide +kernel
theorem dX6_readJarNumber_56 : decode cX6_readJarNumber 56 = .ok (.ireturn, 1) := by decide +kernel
theorem dX6_readJarNumber_57 : decode cX6_readJarNumber 57 = .ok (.iload_n 1, 1) := by decide +kernel
theorem dX6_readJarNumber_58 : decode cX6_readJarNumber 58 = .ok (.bipush 10, 2) := by decide +kernel
theorem dX6_readJarNumber_60 : decode cX6_readJarNumber 60 = .ok (.imul, 1) := by decide +kernel
theorem dX6_readJarNumber_61 : decode cX6_readJarNumber 61 = .ok (.iload_n 3, 1) := by decide +kernel
theorem dX6_readJarNumber_62 : decode cX6_readJarNumber 62 = .ok (.iadd, 1) := by decide +kernel
theorem dX6_readJarNumber_63 : decode cX6_readJarNumber 63 = .ok (.istore_n 1, 1) := by decide +kernel
theorem dX6_readJarNumber_64 : decode cX6_readJarNumber 64 = .ok (.aload_n 0, 1) := by decide +kernel
theorem dX6_readJarNumber_65 : decode cX6_readJarNumber 65 = .ok (.dup, 1) := by decide +kernel
theorem dX6_readJarNumber_66 : decode cX6_readJarNumber 66 = .ok (.getfield 19, 3) := by decide +kernel
theorem dX6_readJarNumber_69 : decode cX6_readJarNumber 69 = .ok (.iconst 1, 1) := by decide +kernel
theorem dX6_readJarNumber_70 : decode cX6_readJarNumber 70 = .ok (.iadd, 1) := by decide +kernel
theorem dX6_readJarNumber_71 : decode cX6_readJarNumber 71 = .ok (.putfield 19, 3) := by decide +kernel
theorem dX6_readJarNumber_74 : decode cX6_readJarNumber 74 = .ok (.iinc 2 1, 3) := by decide +kernel
theorem dX6_readJarNumber_77 : decode cX6_readJarNumber 77 = .ok (.goto (-53), 3) := by decide +kernel
theorem dX6_readJarNumber_80 : decode cX6_readJarNumber 80 = .ok (.iload_n 1, 1) := by decide +kernel
theorem dX6_readJarNumber_81 : decode cX6_readJarNumber 81 = .ok (.ireturn, 1) := by decide +kernel
theorem dX6_spiceHere_0 : decode cX6_spiceHere 0 = .ok (.aload_n 0, 1) := by decide +kernel
theorem dX6_spiceHere_1 : decode cX6_spiceHere 1 = .ok (.getfield 19, 3) := by decide +kernel
theorem dX6_spiceHere_4 : decode cX6_spiceHere 4 = .ok (.aload_n 0, 1) := by decide +kernel
theorem dX6_spiceHere_5 : decode cX6_spiceHere 5 = .ok (.getfield 15, 3) := by decide +kernel
theorem dX6_spiceHere_8 : decode cX6_spiceHere 8 = .ok (.if_icmp .ge 31, 3) := by decide +kernel
theorem dX6_spiceHere_11 : decode cX6_spiceHere 11 = .ok (.aload_n 0, 1) := by decide +kernel
theorem dX6_spiceHere_12 : decode cX6_spiceHere 12 = .ok (.getfield 9, 3) := by decide +kernel
theorem dX6_spiceHere_15 : decode cX6_spiceHere 15 = .ok (.aload_n 0, 1) := by decide +kernel
theorem dX6_spiceHere_16 : decode cX6_spiceHere 16 = .ok (.getfield 19, 3) := by decide +kernel
theorem dX6_spiceHere_19 : decode cX6_spiceHere 19 = .ok (.caload, 1) := by decide +kernel
theorem dX6_spiceHere_20 : decode cX6_spiceHere 20 = .ok (.bipush 97, 2) := by decide +kernel
theorem dX6_spiceHere_22 : decode cX6_spiceHere 22 = .ok (.if_icmp .lt 17, 3) := by decide +kernel
theorem dX6_spiceHere_25 : decode cX6_spiceHere 25 = .ok (.aload_n 0, 1) := by decide +kernel
theorem dX6_spiceHere_26 : decode cX6_spiceHere 26 = .ok (.getfield 9, 3) := by decide +kernel
theorem dX6_spiceHere_29 : decode cX6_spiceHere 29 = .ok (.aload_n 0, 1) := by decide +kernel
theorem dX6_spiceHere_30 : decode cX6_spiceHere 30 = .ok (.getfield 19, 3) := by decide +kernel
theorem dX6_spiceHere_33 : decode cX6_spiceHere 33 = .ok (.caload, 1) := by decide +kernel
theorem dX6_spiceHere_34 : decode cX6_spiceHere 34 = .ok (.bipush 104, 2) := by decide +kernel
theorem dX6_spiceHere_36 : decode cX6_spiceHere 36 = .ok (.if_icmp .le 6, 3) := by decide +kernel
theorem dX6_spiceHere_39 : decode cX6_spiceHere 39 = .ok (.bipush (-5), 2) := by decide +kernel
theorem dX6_spiceHere_41 : decode cX6_spiceHere 41 = .ok (.ireturn, 1) := by decide +kernel
theorem dX6_spiceHere_42 : decode cX6_spiceHere 42 = .ok (.aload_n 0, 1) := by decide +kernel
theorem dX6_spiceHere_43 : decode cX6_spiceHere 43 = .ok (.getfield 9, 3) := by decide +kernel
theorem dX6_spiceHere_46 : decode cX6_spiceHere 46 = .ok (.aload_n 0, 1) := by decide +kernel
theorem dX6_spiceHere_47 : decode cX6_spiceHere 47 = .ok (.getfield 19, 3) := by decide +kernel
theorem dX6_spiceHere_50 : decode cX6_spiceHere 50 = .ok (.caload, 1) := by decide +kernel
theorem dX6_spiceHere_51 : decode cX6_spiceHere 51 = .ok (.bipush 97, 2) := by decide +kernel
theorem dX6_spiceHere_53 : decode cX6_spiceHere 53 = .ok (.isub, 1) := by decide +kernel
theorem dX6_spiceHere_54 : decode cX6_spiceHere 54 = .ok (.ireturn, 1) := by decide +kernel
theorem dX6_digitHere_0 : decode cX6_digitHere 0 = .ok (.aload_n 0, 1) := by decide +kernel
theorem dX6_digitHere_1 : decode cX6_digitHere 1 = .ok (.getfield 19, 3) := by decide +kernel
theorem dX6_digitHere_4 : decode cX6_digitHere 4 = .ok (.aload_n 0, 1) := by decide +kernel
theorem dX6_digitHere_5 : decode cX6_digitHere 5 = .ok (.getfield 15, 3) := by decide +kernel
theorem dX6_digitHere_8 : decode cX6_digitHere 8 = .ok (.if_icmp .ge 31, 3) := by decide +kernel
theorem dX6_digitHere_11 : decode cX6_digitHere 11 = .ok (.aload_n 0, 1) := by decide +kernel
theorem dX6_digitHere_12 : decode cX6_digitHere 12 = .ok (.getfield 9, 3) := by decide +kernel
theorem dX6_digitHere_15 : decode cX6_digitHere 15 = .ok (.aload_n 0, 1) := by decide +kernel
theorem dX6_digitHere_16 : decode cX6_digitHere 16 = .ok (.getfield 19, 3) := by decide +kernel
theorem dX6_digitHere_19 : decode cX6_digitHere 19 = .ok (.caload, 1) := by decide +kernel
theorem dX6_digitHere_20 : decode cX6_digitHere 20 = .ok (.bipush 48, 2) := by decide +kernel
theorem dX6_digitHere_22 : decode cX6_digitHere 22 = .ok (.if_icmp .lt 17, 3) := by decide +kernel
theorem dX6_digitHere_25 : decode cX6_digitHere 25 = .ok (.aload_n 0, 1) := by decide +kernel
theorem dX6_digitHere_26 : decode cX6_digitHere 26 = .ok (.getfield 9, 3) := by decide +kernel
theorem dX6_digitHere_29 : decode cX6_digitHere 29 = .ok (.aload_n 0, 1) := by decide +kernel
theorem dX6_digitHere_30 : decode cX6_digitHere 30 = .ok (.getfield 19, 3) := by decide +kernel
theorem dX6_digitHere_33 : decode cX6_digitHere 33 = .ok (.caload, 1) := by decide +kernel
theorem dX6_digitHere_34 : decode cX6_digitHere 34 = .ok (.bipush 57, 2) := by decide +kernel
theorem dX6_digitHere_36 : decode cX6_digitHere 36 = .ok (.if_icmp .le 6, 3) := by decide +kernel
theorem dX6_digitHere_39 : decode cX6_digitHere 39 = .ok (.bipush (-5), 2) := by decide +kernel
theorem dX6_digitHere_41 : decode cX6_digitHere 41 = .ok (.ireturn, 1) := by decide +kernel
theorem dX6_digitHere_42 : decode cX6_digitHere 42 = .ok (.aload_n 0, 1) := by decide +kernel
theorem dX6_digitHere_43 : decode cX6_digitHere 43 = .ok (.getfield 9, 3) := by decide +kernel
theorem dX6_digitHere_46 : decode cX6_digitHere 46 = .ok (.aload_n 0, 1) := by decide +kernel
theorem dX6_digitHere_47 : decode cX6_digitHere 47 = .ok (.getfield 19, 3) := by decide +kernel
theorem dX6_digitHere_50 : decode cX6_digitHere 50 = .ok (.caload, 1) := by decide +kernel
theorem dX6_digitHere_51 : decode cX6_digitHere 51 = .ok (.bipush 48, 2) := by decide +kernel
theorem dX6_digitHere_53 : decode cX6_digitHere 53 = .ok (.isub, 1) := by decide +kernel
theorem dX6_digitHere_54 : decode cX6_digitHere 54 = .ok (.ireturn, 1) := by decide +kernel
theorem dX7_init_0 : decode cX7_init 0 = .ok (.aload_n 0, 1) := by decide +kernel
theorem dX7_init_1 : decode cX7_init 1 = .ok (.invokespecial 1, 3) := by decide +kernel
theorem dX7_init_4 : decode cX7_init 4 = .ok (.aload_n 0, 1) := by decide +kernel
theorem dX7_init_5 : decode cX7_init 5 = .ok (.new 7, 3) := by decide +kernel
theorem dX7_init_8 : decode cX7_init 8 = .ok (.dup, 1) := by decide +kernel
theorem dX7_init_9 : decode cX7_init 9 = .ok (.invokespecial 9, 3) := by decide +kernel
theorem dX7_init_12 : decode cX7_init 12 = .ok (.putfield 10, 3) := by decide +kernel
theorem dX7_init_15 : decode cX7_init 15 = .ok (.aload_n 0, 1) := by decide +kernel
theorem dX7_init_16 : decode cX7_init 16 = .ok (.new 16, 3) := by decide +kernel
theorem dX7_init_19 : decode cX7_init 19 = .ok (.dup, 1) := by decide +kernel
theorem dX7_init_20 : decode cX7_init 20 = .ok (.aload_n 0, 1) := by decide +kernel
theorem dX7_init_21 : decode cX7_init 21 = .ok (.getfield 10, 3) := by decide +kernel
theorem dX7_init_24 : decode cX7_init 24 = .ok (.invokespecial 18, 3) := by decide +kernel
theorem dX7_init_27 : decode cX7_init 27 = .ok (.putfield 21, 3) := by decide +kernel
theorem dX7_init_30 : decode cX7_init 30 = .ok (.aload_n 0, 1) := by decide +kernel
theorem dX7_init_31 : decode cX7_init 31 = .ok (.new 25, 3) := by decide +kernel
theorem dX7_init_34 : decode cX7_init 34 = .ok (.dup, 1) := by decide +kernel
theorem dX7_init_35 : decode cX7_init 35 = .ok (.invokespecial 27, 3) := by decide +kernel
theorem dX7_init_38 : decode cX7_init 38 = .ok (.putfield 28, 3) := by decide +kernel
theorem dX7_init_41 : decode cX7_init 41 = .ok (.aload_n 0, 1) := by decide +kernel
theorem dX7_init_42 : decode cX7_init 42 = .ok (.new 25, 3) := by decide +kernel
theorem dX7_init_45 : decode cX7_init 45 = .ok (.dup, 1) := by decide +kernel
theorem dX7_init_46 : decode cX7_init 46 = .ok (.invokespecial 27, 3) := by decide +kernel
theorem dX7_init_49 : decode cX7_init 49 = .ok (.putfield 32, 3) := by decide +kernel
theorem dX7_init_52 : decode cX7_init 52 = .ok (.aload_n 0, 1) := by decide +kernel
theorem dX7_init_53 : decode cX7_init 53 = .ok (.iconst 0, 1) := by decide +kernel
theorem dX7_init_54 : decode cX7_init 54 = .ok (.putfield 35, 3) := by decide +kernel
theorem dX7_init_57 : decode cX7_init 57 = .ok (.aload_n 0, 1) := by decide +kernel
theorem dX7_init_58 : decode cX7_init 58 = .ok (.new 39, 3) := by decide +kernel
theorem dX7_init_61 : decode cX7_init 61 = .ok (.dup, 1) := by decide +kernel
theorem dX7_init_62 : decode cX7_init 62 = .ok (.invokespecial 41, 3) := by decide +kernel
theorem dX7_init_65 : decode cX7_init 65 = .ok (.putfield 42, 3) := by decide +kernel
theorem dX7_init_68 : decode cX7_init 68 = .ok (.aload_n 0, 1) := by decide +kernel
theorem dX7_init_69 : decode cX7_init 69 = .ok (.new 46, 3) := by decide +kernel
theorem dX7_init_72 : decode cX7_init 72 = .ok (.dup, 1) := by decide +kernel
theorem dX7_init_73 : decode cX7_init 73 = .ok (.aload_n 0, 1) := by decide +kernel
theorem dX7_init_74 : decode cX7_init 74 = .ok (.getfield 28, 3) := by decide +kernel
theorem dX7_init_77 : decode cX7_init 77 = .ok (.aload_n 0, 1) := by decide +kernel
theorem dX7_init_78 : decode cX7_init 78 = .ok (.getfield 10, 3) := by decide +kernel
theorem dX7_init_81 : decode cX7_init 81 = .ok (.aload_n 0, 1) := by decide +kernel
theorem dX7_init_82 : decode cX7_init 82 = .ok (.getfield 21, 3) := by decide +kernel
theorem dX7_init_85 : decode cX7_init 85 = .ok (.invokespecial 48, 3) := by decide +kernel
theorem dX7_init_88 : decode cX7_init 88 = .ok (.putfield 51, 3) := by decide +kernel
theorem dX7_init_91 : decode cX7_init 91 = .ok (.aload_n 0, 1) := by decide +kernel
theorem dX7_init_92 : decode cX7_init 92 = .ok (.new 55, 3) := by decide +kernel
theorem dX7_init_95 : decode cX7_init 95 = .ok (.dup, 1) := by decide +kernel
theorem dX7_init_96 : decode cX7_init 96 = .ok (.invokespecial 57, 3) := by decide +kernel
theorem dX7_init_99 : decode cX7_init 99 = .ok (.putfield 58, 3) := by decide +kernel
theorem dX7_init_102 : decode cX7_init 102 = .ok (.aload_n 0, 1) := by decide +kernel
theorem dX7_init_103 : decode cX7_init 103 = .ok (.new 62, 3) := by decide +kernel
theorem dX7_init_106 : decode cX7_init 106 = .ok (.dup, 1) := by decide +kernel
theorem dX7_init_107 : decode cX7_init 107 = .ok (.aload_n 0, 1) := by decide +kernel
theorem dX7_init_108 : decode cX7_init 108 = .ok (.getfield 10, 3) := by decide +kernel
theorem dX7_init_111 : decode cX7_init 111 = .ok (.invokespecial 64, 3) := by decide +kernel
theorem dX7_init_114 : decode cX7_init 114 = .ok (.putfield 65, 3) := by decide +kernel
theorem dX7_init_117 : decode cX7_init 117 = .ok (.return_, 1) := by decide +kernel
theorem dX7_jar_0 : decode cX7_jar 0 = .ok (.aload_n 0, 1) := by decide +kernel
theorem dX7_jar_1 : decode cX7_jar 1 = .ok (.getfield 42, 3) := by decide +kernel
theorem dX7_jar_4 : decode cX7_jar 4 = .ok (.aload_n 0, 1) := by decide +kernel
theorem dX7_jar_5 : decode cX7_jar 5 = .ok (.getfield 28, 3) := by decide +kernel
theorem dX7_jar_8 : decode cX7_jar 8 = .ok (.invokevirtual 69, 3) := by decide +kernel
theorem dX7_jar_11 : decode cX7_jar 11 = .ok (.aload_n 0, 1) := by decide +kernel
theorem dX7_jar_12 : decode cX7_jar 12 = .ok (.aload_n 0, 1) := by decide +kernel
theorem dX7_jar_13 : decode cX7_jar 13 = .ok (.getfield 51, 3) := by decide +kernel
theorem dX7_jar_16 : decode cX7_jar 16 = .ok (.iload_n 1, 1) := by decide +kernel
theorem dX7_jar_17 : decode cX7_jar 17 = .ok (.invokevirtual 73, 3) := by decide +kernel
theorem dX7_jar_20 : decode cX7_jar 20 = .ok (.invokevirtual 77, 3) := by decide +kernel
theorem dX7_jar_23 : decode cX7_jar 23 = .ok (.ireturn, 1) := by decide +kernel
theorem dX7_pour_0 : decode cX7_pour 0 = .ok (.aload_n 0, 1) := by decide +kernel
theorem dX7_pour_1 : decode cX7_pour 1 = .ok (.getfield 42, 3) := by decide +kernel
theorem dX7_pour_4 : decode cX7_pour 4 = .ok (.aload_n 0, 1) := by decide +kernel
theorem dX7_pour_5 : decode cX7_pour 5 = .ok (.getfield 28, 3) := by decide +kernel
theorem dX7_pour_8 : decode cX7_pour 8 = .ok (.invokevirtual 69, 3) := by decide +kernel
theorem dX7_pour_11 : decode cX7_pour 11 = .ok (.aload_n 0, 1) := by decide +kernel
theorem dX7_pour_12 : decode cX7_pour 12 = .ok (.aload_n 0, 1) := by decide +kernel
theorem dX7_pour_13 : decode cX7_pour 13 = .ok (.getfield 51, 3) := by decide +kernel
theorem dX7_pour_16 : decode cX7_pour 16 = .ok (.iload_n 1, 1) := by decide +kernel
theorem dX7_pour_17 : decode cX7_pour 17 = .ok (.iload_n 2, 1) := by decide +kernel
theorem dX7_pour_18 : decode cX7_pour 18 = .ok (.invokevirtual 80, 3) := by decide +kernel
theorem dX7_pour_21 : decode cX7_pour 21 = .ok (.invokevirtual 77, 3) := by decide +kernel
theorem dX7_pour_24 : decode cX7_pour 24 = .ok (.ireturn, 1) := by decide +kernel
theorem dX7_more_0 : decode cX7_more 0 = .ok (.aload_n 0, 1) := by decide +kernel
theorem dX7_more_1 : decode cX7_more 1 = .ok (.getfield 42, 3) := by decide +kernel
theorem dX7_more_4 : decode cX7_more 4 = .ok (.aload_n 0, 1) := by decide +kernel
theorem dX7_more_5 : decode cX7_more 5 = .ok (.getfield 28, 3) := by decide +kernel
theorem dX7_more_8 : decode cX7_more 8 = .ok (.invokevirtual 69, 3) := by decide +kernel
theorem dX7_more_11 : decode cX7_more 11 = .ok (.aload_n 0, 1) := by decide +kernel
theorem dX7_more_12 : decode cX7_more 12 = .ok (.aload_n 0, 1) := by decide +kernel
theorem dX7_more_13 : decode cX7_more 13 = .ok (.getfield 51, 3) := by decide +kernel
theorem dX7_more_16 : decode cX7_more 16 = .ok (.iload_n 1, 1) := by decide +kernel
theorem dX7_more_17 : decode cX7_more 17 = .ok (.invokevirtual 84, 3) := by decide +kernel
theorem dX7_more_20 : decode cX7_more 20 = .ok (.invokevirtual 77, 3) := by decide +kernel
theorem dX7_more_23 : decode cX7_more 23 = .ok (.ireturn, 1) := by decide +kernel
theorem dX7_throwAway_0 : decode cX7_throwAway 0 = .ok (.aload_n 0, 1) := by decide +kernel
theorem dX7_throwAway_1 : decode cX7_throwAway 1 = .ok (.getfield 42, 3) := by decide +kernel
theorem dX7_throwAway_4 : decode cX7_throwAway 4 = .ok (.aload_n 0, 1) := by decide +kernel
theorem dX7_throwAway_5 : decode cX7_throwAway 5 = .ok (.getfield 28, 3) := by decide +kernel
theorem dX7_throwAway_8 : decode cX7_throwAway 8 = .ok (.invokevirtual 69, 3) := by decide +kernel
theorem dX7_throwAway_11 : decode cX7_throwAway 11 = .ok (.aload_n 0, 1) := by decide +kernel
theorem dX7_throwAway_12 : decode cX7_throwAway 12 = .ok (.aload_n 0, 1) := by decide +kernel
theorem dX7_throwAway_13 : decode cX7_throwAway 13 = .ok (.getfield 51, 3) := by decide +kernel
theorem dX7_throwAway_16 : decode cX7_throwAway 16 = .ok (.iload_n 1, 1) := by decide +kernel
theorem dX7_throwAway_17 : decode cX7_throwAway 17 = .ok (.invokevirtual 87, 3) := by decide +kernel
theorem dX7_throwAway_20 : decode cX7_throwAway 20 = .ok (.invokevirtual 77, 3) := by decide +kernel
theorem dX7_throwAway_23 : decode cX7_throwAway 23 = .ok (.ireturn, 1) := by decide +kernel
theorem dX7_rule_0 : decode cX7_rule 0 = .ok (.aload_n 0, 1) := by decide +kernel
theorem dX7_rule_1 : decode cX7_rule 1 = .ok (.getfield 42, 3) := by decide +kernel
theorem dX7_rule_4 : decode cX7_rule 4 = .ok (.aload_n 0, 1) := by decide +kernel
theorem dX7_rule_5 : decode cX7_rule 5 = .ok (.getfield 28, 3) := by decide +kernel
theorem dX7_rule_8 : decode cX7_rule 8 = .ok (.invokevirtual 69, 3) := by decide +kernel
theorem dX7_rule_11 : decode cX7_rule 11 = .ok (.aload_n 0, 1) := by decide +kernel
theorem dX7_rule_12 : decode cX7_rule 12 = .ok (.getfield 51, 3) := by decide +kernel
theorem dX7_rule_15 : decode cX7_rule 15 = .ok (.iload_n 1, 1) := by decide +kernel
theorem dX7_rule_16 : decode cX7_rule 16 = .ok (.invokevirtual 90, 3) := by decide +kernel
theorem dX7_rule_19 : decode cX7_rule 19 = .ok (.istore_n 2, 1) := by decide +kernel
theorem dX7_rule_20 : decode cX7_rule 20 = .ok (.aload_n 0, 1) := by decide +kernel
theorem dX7_rule_21 : decode cX7_rule 21 = .ok (.iload_n 2, 1) := by decide +kernel
theorem dX7_rule_22 : decode cX7_rule 22 = .ok (.ifCond .ge 7, 3) := by decide +kernel
theorem dX7_rule_25 : decode cX7_rule 25 = .ok (.iload_n 2, 1) := by decide +kernel
theorem dX7_rule_26 : decode cX7_rule 26 = .ok (.goto 7, 3) := by decide +kernel
theorem dX7_rule_29 : decode cX7_rule 29 = .ok (.aload_n 0, 1) := by decide +kernel
theorem dX7_rule_30 : decode cX7_rule 30 = .ok (.invokevirtual 93, 3) := by decide +kernel
theorem dX7_rule_33 : decode cX7_rule 33 = .ok (.invokevirtual 77, 3) := by decide +kernel
theorem dX7_rule_36 : decode cX7_rule 36 = .ok (.ireturn, 1) := by decide +kernel
theorem dX7_drop_0 : decode cX7_drop 0 = .ok (.aload_n 0, 1) := by decide +kernel
theorem dX7_drop_1 : decode cX7_drop 1 = .ok (.getfield 42, 3) := by decide +kernel
theorem dX7_drop_4 : decode cX7_drop 4 = .ok (.aload_n 0, 1) := by decide +kernel
theorem dX7_drop_5 : decode cX7_drop 5 = .ok (.getfield 28, 3) := by decide +kernel
theorem dX7_drop_8 : decode cX7_drop 8 = .ok (.invokevirtual 69, 3) := by decide +kernel
theorem dX7_drop_11 : decode cX7_drop 11 = .ok (.aload_n 0, 1) := by decide +kernel
theorem dX7_drop_12 : decode cX7_drop 12 = .ok (.getfield 51, 3) := by decide +kernel
theorem dX7_drop_15 : decode cX7_drop 15 = .ok (.iload_n 1, 1) := by decide +kernel
theorem dX7_drop_16 : decode cX7_drop 16 = .ok (.invokevirtual 97, 3) := by decide +kernel
theorem dX7_drop_19 : decode cX7_drop 19 = .ok (.istore_n 2, 1) := by decide +kernel
theorem dX7_drop_20 : decode cX7_drop 20 = .ok (.aload_n 0, 1) := by decide +kernel
theorem dX7_drop_21 : decode cX7_drop 21 = .ok (.iload_n 2, 1) := by decide +kernel
theorem dX7_drop_22 : decode cX7_drop 22 = .ok (.ifCond .ge 7, 3) := by decide +kernel
theorem dX7_drop_25 : decode cX7_drop 25 = .ok (.iload_n 2, 1) := by decide +kernel
theorem dX7_drop_26 : decode cX7_drop 26 = .ok (.goto 7, 3) := by decide +kernel
theorem dX7_drop_29 : decode cX7_drop 29 = .ok (.aload_n 0, 1) := by decide +kernel
theorem dX7_drop_30 : decode cX7_drop 30 = .ok (.invokevirtual 93, 3) := by decide +kernel
theorem dX7_drop_33 : decode cX7_drop 33 = .ok (.invokevirtual 77, 3) := by decide +kernel
theorem dX7_drop_36 : decode cX7_drop 36 = .ok (.ireturn, 1) := by decide +kernel
theorem dX7_price_0 : decode cX7_price 0 = .ok (.aload_n 0, 1) := by decide +kernel
theorem dX7_price_1 : decode cX7_price 1 = .ok (.getfield 42, 3) := by decide +kernel
theorem dX7_price_4 : decode cX7_price 4 = .ok (.aload_n 0, 1) := by decide +kernel
theorem dX7_price_5 : decode cX7_price 5 = .ok (.getfield 28, 3) := by decide +kernel
theorem dX7_price_8 : decode cX7_price 8 = .ok (.invokevirtual 69, 3) := by decide +kernel
theorem dX7_price_11 : decode cX7_price 11 = .ok (.aload_n 0, 1) := by decide +kernel
theorem dX7_price_12 : decode cX7_price 12 = .ok (.aload_n 0, 1) := by decide +kernel
theorem dX7_price_13 : decode cX7_price 13 = .ok (.getfield 51, 3) := by decide +kernel
theorem dX7_price_16 : decode cX7_price 16 = .ok (.iload_n 1, 1) := by decide +kernel
theorem dX7_price_17 : decode cX7_price 17 = .ok (.iload_n 2, 1) := by decide +kernel
theorem dX7_price_18 : decode cX7_price 18 = .ok (.invokevirtual 100, 3) := by decide +kernel
theorem dX7_price_21 : decode cX7_price 21 = .ok (.invokevirtual 77, 3) := by decide +kernel
theorem dX7_price_24 : decode cX7_price 24 = .ok (.ireturn, 1) := by decide +kernel
theorem dX7_want_0 : decode cX7_want 0 = .ok (.aload_n 0, 1) := by decide +kernel
theorem dX7_want_1 : decode cX7_want 1 = .ok (.getfield 42, 3) := by decide +kernel
theorem dX7_want_4 : decode cX7_want 4 = .ok (.aload_n 0, 1) := by decide +kernel
theorem dX7_want_5 : decode cX7_want 5 = .ok (.getfield 28, 3) := by decide +kernel
theorem dX7_want_8 : decode cX7_want 8 = .ok (.invokevirtual 69, 3) := by decide +kernel
theorem dX7_want_11 : decode cX7_want 11 = .ok (.aload_n 0, 1) := by decide +kernel
theorem dX7_want_12 : decode cX7_want 12 = .ok (.aload_n 0, 1) := by decide +kernel
theorem dX7_want_13 : decode cX7_want 13 = .ok (.getfield 51, 3) := by decide +kernel
theorem dX7_want_16 : decode cX7_want 16 = .ok (.iload_n 1, 1) := by decide +kernel
theorem dX7_want_17 : decode cX7_want 17 = .ok (.invokevirtual 103, 3) := by decide +kernel
theorem dX7_want_20 : decode cX7_want 20 = .ok (.invokevirtual 77, 3) := by decide +kernel
theorem dX7_want_23 : decode cX7_want 23 = .ok (.ireturn, 1) := by decide +kernel
theorem dX7_serve_0 : decode cX7_serve 0 = .ok (.aload_n 0, 1) := by decide +kernel
theorem dX7_serve_1 : decode cX7_serve 1 = .ok (.getfield 42, 3) := by decide +kernel
theorem dX7_serve_4 : decode cX7_serve 4 = .ok (.aload_n 0, 1) := by decide +kernel
theorem dX7_serve_5 : decode cX7_serve 5 = .ok (.getfield 28, 3) := by decide +kernel
theorem dX7_serve_8 : decode cX7_serve 8 = .ok (.invokevirtual 69, 3) := by decide +kernel
theorem dX7_serve_11 : decode cX7_serve 11 = .ok (.aload_n 0, 1) := by decide +kernel
theorem dX7_serve_12 : decode cX7_serve 12 = .ok (.aload_n 0, 1) := by decide +kernel
theorem dX7_serve_13 : decode cX7_serve 13 = .ok (.getfield 51, 3) := by decide +kernel
theorem dX7_serve_16 : decode cX7_serve 16 = .ok (.invokevirtual 106, 3) := by decide +kernel
theorem dX7_serve_19 : decode cX7_serve 19 = .ok (.invokevirtual 77, 3) := by decide +kernel
theorem dX7_serve_22 : decode cX7_serve 22 = .ok (.ireturn, 1) := by decide +kernel
theorem dX7_type_0 : decode cX7_type 0 = .ok (.aload_n 0, 1) := by decide +kernel
theorem dX7_type_1 : decode cX7_type 1 = .ok (.getfield 58, 3) := by decide +kernel
theorem dX7_type_4 : decode cX7_type 4 = .ok (.iload_n 1, 1) := by decide +kernel
theorem dX7_type_5 : decode cX7_type 5 = .ok (.invokevirtual 109, 3) := by decide +kernel
theorem dX7_type_8 : decode cX7_type 8 = .ok (.ireturn, 1) := by decide +kernel
theorem dX7_clearText_0 : decode cX7_clearText 0 = .ok (.aload_n 0, 1) := by decide +kernel
theorem dX7_clearText_1 : decode cX7_clearText 1 = .ok (.getfield 58, 3) := by decide +kernel
theorem dX7_clearText_4 : decode cX7_clearText 4 = .ok (.invokevirtual 113, 3) := by decide +kernel
theorem dX7_clearText_7 : decode cX7_clearText 7 = .ok (.ireturn, 1) := by decide +kernel
theorem dX7_fault_0 : decode cX7_fault 0 = .ok (.aload_n 0, 1) := by decide +kernel
theorem dX7_fault_1 : decode cX7_fault 1 = .ok (.getfield 58, 3) := by decide +kernel
theorem dX7_fault_4 : decode cX7_fault 4 = .ok (.invokevirtual 116, 3) := by decide +kernel
theorem dX7_fault_7 : decode cX7_fault 7 = .ok (.ireturn, 1) := by decide +kernel
theorem dX7_doAll_0 : decode cX7_doAll 0 = .ok (.aload_n 0, 1) := by decide +kernel
theorem dX7_doAll_1 : decode cX7_doAll 1 = .ok (.getfield 58, 3) := by decide +kernel
theorem dX7_doAll_4 : decode cX7_doAll 4 = .ok (.invokevirtual 116, 3) := by decide +kernel
theorem dX7_doAll_7 : decode cX7_doAll 7 = .ok (.istore_n 1, 1) := by decide +kernel
theorem dX7_doAll_8 : decode cX7_doAll 8 = .ok (.iload_n 1, 1) := by decide +kernel
theorem dX7_doAll_9 : decode cX7_doAll 9 = .ok (.ifCond .lt 8, 3) := by decide +kernel
theorem dX7_doAll_12 : decode cX7_doAll 12 = .ok (.bipush (-100), 2) := by decide +kernel
theorem dX7_doAll_14 : decode cX7_doAll 14 = .ok (.iload_n 1, 1) := by decide +kernel
theorem dX7_doAll_15 : decode cX7_doAll 15 = .ok (.isub, 1) := by decide +kernel
theorem dX7_doAll_16 : decode cX7_doAll 16 = .ok (.ireturn, 1) := by decide +kernel
theorem dX7_doAll_17 : decode cX7_doAll 17 = .ok (.aload_n 0, 1) := by decide +kernel
theorem dX7_doAll_18 : decode cX7_doAll 18 = .ok (.getfield 42, 3) := by decide +kernel
theorem dX7_doAll_21 : decode cX7_doAll 21 = .ok (.aload_n 0, 1) := by decide +kernel
theorem dX7_doAll_22 : decode cX7_doAll 22 = .ok (.getfield 28, 3) := by decide +kernel
theorem dX7_doAll_25 : decode cX7_doAll 25 = .ok (.invokevirtual 69, 3) := by decide +kernel
theorem dX7_doAll_28 : decode cX7_doAll 28 = .ok (.aload_n 0, 1) := by decide +kernel
theorem dX7_doAll_29 : decode cX7_doAll 29 = .ok (.getfield 51, 3) := by decide +kernel
theorem dX7_doAll_32 : decode cX7_doAll 32 = .ok (.aload_n 0, 1) := by decide +kernel
theorem dX7_doAll_33 : decode cX7_doAll 33 = .ok (.getfield 58, 3) := by decide +kernel
theorem dX7_doAll_36 : decode cX7_doAll 36 = .ok (.invokevirtual 119, 3) := by decide +kernel
theorem dX7_doAll_39 : decode cX7_doAll 39 = .ok (.istore_n 2, 1) := by decide +kernel
theorem dX7_doAll_40 : decode cX7_doAll 40 = .ok (.iload_n 2, 1) := by decide +kernel
theorem dX7_doAll_41 : decode cX7_doAll 41 = .ok (.ifCond .ge 14, 3) := by decide +kernel
theorem dX7_doAll_44 : decode cX7_doAll 44 = .ok (.aload_n 0, 1) := by decide +kernel
theorem dX7_doAll_45 : decode cX7_doAll 45 = .ok (.getfield 42, 3) := by decide +kernel
theorem dX7_doAll_48 : decode cX7_doAll 48 = .ok (.aload_n 0, 1) := by decide +kernel
theorem dX7_doAll_49 : decode cX7_doAll 49 = .ok (.getfield 28, 3) := by decide +kernel
theorem dX7_doAll_52 : decode cX7_doAll 52 = .ok (.invokevirtual 123, 3) := by decide +kernel
theorem dX7_doAll_55 : decode cX7_doAll 55 = .ok (.aload_n 0, 1) := by decide +kernel
theorem dX7_doAll_56 : decode cX7_doAll 56 = .ok (.iload_n 2, 1) := by decide +kernel
theorem dX7_doAll_57 : decode cX7_doAll 57 = .ok (.invokevirtual 77, 3) := by decide +kernel
theorem dX7_doAll_60 : decode cX7_doAll 60 = .ok (.ireturn, 1) := by decide +kernel
theorem dX7_undo_0 : decode cX7_undo 0 = .ok (.aload_n 0, 1) := by decide +kernel
theorem dX7_undo_1 : decode cX7_undo 1 = .ok (.getfield 42, 3) := by decide +kernel
theorem dX7_undo_4 : decode cX7_undo 4 = .ok (.aload_n 0, 1) := by decide +kernel
theorem dX7_undo_5 : decode cX7_undo 5 = .ok (.getfield 28, 3) := by decide +kernel
theorem dX7_undo_8 : decode cX7_undo 8 = .ok (.invokevirtual 126, 3) := by decide +kernel
theorem dX7_undo_11 : decode cX7_undo 11 = .ok (.ireturn, 1) := by decide +kernel
theorem dX7_keep_0 : decode cX7_keep 0 = .ok (.aload_n 0, 1) := by decide +kernel
theorem dX7_keep_1 : decode cX7_keep 1 = .ok (.getfield 32, 3) := by decide +kernel
theorem dX7_keep_4 : decode cX7_keep 4 = .ok (.aload_n 0, 1) := by decide +kernel
theorem dX7_keep_5 : decode cX7_keep 5 = .ok (.getfield 28, 3) := by decide +kernel
theorem dX7_keep_8 : decode cX7_keep 8 = .ok (.invokevirtual 130, 3) := by decide +kernel
theorem dX7_keep_11 : decode cX7_keep 11 = .ok (.aload_n 0, 1) := by decide +kernel
theorem dX7_keep_12 : decode cX7_keep 12 = .ok (.iconst 1, 1) := by decide +kernel
theorem dX7_keep_13 : decode cX7_keep 13 = .ok (.putfield 35, 3) := by decide +kernel
theorem dX7_keep_16 : decode cX7_keep 16 = .ok (.aload_n 0, 1) := by decide +kernel
theorem dX7_keep_17 : decode cX7_keep 17 = .ok (.getfield 28, 3) := by decide +kernel
theorem dX7_keep_20 : decode cX7_keep 20 = .ok (.getfield 133, 3) := by decide +kernel
theorem dX7_keep_23 : decode cX7_keep 23 = .ok (.ireturn, 1) := by decide +kernel
theorem dX7_restore_0 : decode cX7_restore 0 = .ok (.aload_n 0, 1) := by decide +kernel
theorem dX7_restore_1 : decode cX7_restore 1 = .ok (.getfield 35, 3) := by decide +kernel
theorem dX7_restore_4 : decode cX7_restore 4 = .ok (.ifCond .ne 6, 3) := by decide +kernel
theorem dX7_restore_7 : decode cX7_restore 7 = .ok (.bipush (-5), 2) := by decide +kernel
theorem dX7_restore_9 : decode cX7_restore 9 = .ok (.ireturn, 1) := by decide +kernel
theorem dX7_restore_10 : decode cX7_restore 10 = .ok (.aload_n 0, 1) := by decide +kernel
theorem dX7_restore_11 : decode cX7_restore 11 = .ok (.getfield 42, 3) := by decide +kernel
theorem dX7_restore_14 : decode cX7_restore 14 = .ok (.aload_n 0, 1) := by decide +kernel
theorem dX7_restore_15 : decode cX7_restore 15 = .ok (.getfield 28, 3) := by decide +kernel
theorem dX7_restore_18 : decode cX7_restore 18 = .ok (.invokevirtual 69, 3) := by decide +kernel
theorem dX7_restore_21 : decode cX7_restore 21 = .ok (.aload_n 0, 1) := by decide +kernel
theorem dX7_restore_22 : decode cX7_restore 22 = .ok (.getfield 28, 3) := by decide +kernel
theorem dX7_restore_25 : decode cX7_restore 25 = .ok (.aload_n 0, 1) := by decide +kernel
theorem dX7_restore_26 : decode cX7_restore 26 = .ok (.getfield 32, 3) := by decide +kernel
theorem dX7_restore_29 : decode cX7_restore 29 = .ok (.invokevirtual 130, 3) := by decide +kernel
theorem dX7_restore_32 : decode cX7_restore 32 = .ok (.aload_n 0, 1) := by decide +kernel
theorem dX7_restore_33 : decode cX7_restore 33 = .ok (.aload_n 0, 1) := by decide +kernel
theorem dX7_restore_34 : decode cX7_restore 34 = .ok (.getfield 28, 3) := by decide +kernel
theorem dX7_restore_37 : decode cX7_restore 37 = .ok (.getfield 133, 3) := by decide +kernel
theorem dX7_restore_40 : decode cX7_restore 40 = .ok (.invokevirtual 77, 3) := by decide +kernel
theorem dX7_restore_43 : decode cX7_restore 43 = .ok (.ireturn, 1) := by decide +kernel
theorem dX7_ended_0 : decode cX7_ended 0 = .ok (.iload_n 1, 1) := by decide +kernel
theorem dX7_ended_1 : decode cX7_ended 1 = .ok (.ifCond .lt 10, 3) := by decide +kernel
theorem dX7_ended_4 : decode cX7_ended 4 = .ok (.aload_n 0, 1) := by decide +kernel
theorem dX7_ended_5 : decode cX7_ended 5 = .ok (.getfield 42, 3) := by decide +kernel
theorem dX7_ended_8 : decode cX7_ended 8 = .ok (.invokevirtual 137, 3) := by decide +kernel
theorem dX7_ended_11 : decode cX7_ended 11 = .ok (.iload_n 1, 1) := by decide +kernel
theorem dX7_ended_12 : decode cX7_ended 12 = .ok (.ireturn, 1) := by decide +kernel
theorem dX7_jarOf_0 : decode cX7_jarOf 0 = .ok (.aload_n 0, 1) := by decide +kernel
theorem dX7_jarOf_1 : decode cX7_jarOf 1 = .ok (.getfield 28, 3) := by decide +kernel
theorem dX7_jarOf_4 : decode cX7_jarOf 4 = .ok (.iload_n 1, 1) := by decide +kernel
theorem dX7_jarOf_5 : decode cX7_jarOf 5 = .ok (.invokevirtual 140, 3) := by decide +kernel
theorem dX7_jarOf_8 : decode cX7_jarOf 8 = .ok (.istore_n 3, 1) := by decide +kernel
theorem dX7_jarOf_9 : decode cX7_jarOf 9 = .ok (.iload_n 3, 1) := by decide +kernel
theorem dX7_jarOf_10 : decode cX7_jarOf 10 = .ok (.ifCond .ge 5, 3) := by decide +kernel
theorem dX7_jarOf_13 : decode cX7_jarOf 13 = .ok (.iconst (-1), 1) := by decide +kernel
theorem dX7_jarOf_14 : decode cX7_jarOf 14 = .ok (.ireturn, 1) := by decide +kernel
theorem dX7_jarOf_15 : decode cX7_jarOf 15 = .ok (.aload_n 0, 1) := by decide +kernel
theorem dX7_jarOf_16 : decode cX7_jarOf 16 = .ok (.getfield 28, 3) := by decide +kernel
theorem dX7_jarOf_19 : decode cX7_jarOf 19 = .ok (.getfield 143, 3) := by decide +kernel
theorem dX7_jarOf_22 : decode cX7_jarOf 22 = .ok (.iload_n 3, 1) := by decide +kernel
theorem dX7_jarOf_23 : decode cX7_jarOf 23 = .ok (.iaload, 1) := by decide +kernel
theorem dX7_jarOf_24 : decode cX7_jarOf 24 = .ok (.istore 4, 2) := by decide +kernel
theorem dX7_jarOf_26 : decode cX7_jarOf 26 = .ok (.iload_n 2, 1) := by decide +kernel
theorem dX7_jarOf_27 : decode cX7_jarOf 27 = .ok (.tableswitch 109 0 6 #[41, 44, 50, 63, 70, 85, 92], 41) := by decide +kernel
theorem dX7_jarOf_68 : decode cX7_jarOf 68 = .ok (.iload 4, 2) := by decide +kernel
theorem dX7_jarOf_70 : decode cX7_jarOf 70 = .ok (.ireturn, 1) := by decide +kernel
theorem dX7_jarOf_71 : decode cX7_jarOf 71 = .ok (.iload 4, 2) := by decide +kernel
theorem dX7_jarOf_73 : decode cX7_jarOf 73 = .ok (.invokestatic 146, 3) := by decide +kernel
theorem dX7_jarOf_76 : decode cX7_jarOf 76 = .ok (.ireturn, 1) := by decide +kernel
theorem dX7_jarOf_77 : decode cX7_jarOf 77 = .ok (.iload 4, 2) := by decide +kernel
theorem dX7_jarOf_79 : decode cX7_jarOf 79 = .ok (.aload_n 0, 1) := by decide +kernel
theorem dX7_jarOf_80 : decode cX7_jarOf 80 = .ok (.getfield 28, 3) := by decide +kernel
theorem dX7_jarOf_83 : decode cX7_jarOf 83 = .ok (.getfield 149, 3) := by decide +kernel
theorem dX7_jarOf_86 : decode cX7_jarOf 86 = .ok (.invokestatic 152, 3) := by decide +kernel
theorem dX7_jarOf_89 : decode cX7_jarOf 89 = .ok (.ireturn, 1) := by decide +kernel
theorem dX7_jarOf_90 : decode cX7_jarOf 90 = .ok (.aload_n 0, 1) := by decide +kernel
theorem dX7_jarOf_91 : decode cX7_jarOf 91 = .ok (.iload 4, 2) := by decide +kernel
theorem dX7_jarOf_93 : decode cX7_jarOf 93 = .ok (.invokevirtual 156, 3) := by decide +kernel
theorem dX7_jarOf_96 : decode cX7_jarOf 96 = .ok (.ireturn, 1) := by decide +kernel
theorem dX7_jarOf_97 : decode cX7_jarOf 97 = .ok (.aload_n 0, 1) := by decide +kernel
theorem dX7_jarOf_98 : decode cX7_jarOf 98 = .ok (.iload 4, 2) := by decide +kernel
theorem dX7_jarOf_100 : decode cX7_jarOf 100 = .ok (.invokevirtual 156, 3) := by decide +kernel
theorem dX7_jarOf_103 : decode cX7_jarOf 103 = .ok (.ifCond .ne 7, 3) := by decide +kernel
theorem dX7_jarOf_106 : decode cX7_jarOf 106 = .ok (.iconst 1, 1) := by decide +kernel
theorem dX7_jarOf_107 : decode cX7_jarOf 107 = .ok (.goto 4, 3) := by decide +kernel
theorem dX7_jarOf_110 : decode cX7_jarOf 110 = .ok (.iconst 0, 1) := by decide +kernel
theorem dX7_jarOf_111 : decode cX7_jarOf 111 = .ok (.ireturn, 1) := by decide +kernel
theorem dX7_jarOf_112 : decode cX7_jarOf 112 = .ok (.aload_n 0, 1) := by decide +kernel
theorem dX7_jarOf_113 : decode cX7_jarOf 113 = .ok (.iload 4, 2) := by decide +kernel
theorem dX7_jarOf_115 : decode cX7_jarOf 115 = .ok (.invokevirtual 159, 3) := by decide +kernel
theorem dX7_jarOf_118 : decode cX7_jarOf 118 = .ok (.ireturn, 1) := by decide +kernel
theorem dX7_jarOf_119 : decode cX7_jarOf 119 = .ok (.aload_n 0, 1) := by decide +kernel
theorem dX7_jarOf_120 : decode cX7_jarOf 120 = .ok (.iload 4, 2) := by decide +kernel
theorem dX7_jarOf_122 : decode cX7_jarOf 122 = .ok (.invokevirtual 159, 3) := by decide +kernel
theorem dX7_jarOf_125 : decode cX7_jarOf 125 = .ok (.aload_n 0, 1) := by decide +kernel
theorem dX7_jarOf_126 : decode cX7_jarOf 126 = .ok (.getfield 28, 3) := by decide +kernel
theorem dX7_jarOf_129 : decode cX7_jarOf 129 = .ok (.getfield 149, 3) := by decide +kernel
theorem dX7_jarOf_132 : decode cX7_jarOf 132 = .ok (.invokestatic 152, 3) := by decide +kernel
theorem dX7_jarOf_135 : decode cX7_jarOf 135 = .ok (.ireturn, 1) := by decide +kernel
theorem dX7_jarOf_136 : decode cX7_jarOf 136 = .ok (.bipush (-2), 2) := by decide +kernel
theorem dX7_jarOf_138 : decode cX7_jarOf 138 = .ok (.ireturn, 1) := by decide +kernel
theorem dX7_ranked_0 : decode cX7_ranked 0 = .ok (.iload_n 1, 1) := by decide +kernel
theorem dX7_ranked_1 : decode cX7_ranked 1 = .ok (.ifCond .ge 6, 3) := by decide +kernel
theorem dX7_ranked_4 : decode cX7_ranked 4 = .ok (.bipush (-2), 2) := by decide +kernel
theorem dX7_ranked_6 : decode cX7_ranked 6 = .ok (.ireturn, 1) := by decide +kernel
theorem dX7_ranked_7 : decode cX7_ranked 7 = .ok (.iload_n 1, 1) := by decide +kernel
theorem dX7_ranked_8 : decode cX7_ranked 8 = .ok (.aload_n 0, 1) := by decide +kernel
theorem dX7_ranked_9 : decode cX7_ranked 9 = .ok (.getfield 28, 3) := by decide +kernel
theorem dX7_ranked_12 : decode cX7_ranked 12 = .ok (.getfield 133, 3) := by decide +kernel
theorem dX7_ranked_15 : decode cX7_ranked 15 = .ok (.if_icmp .ge 15, 3) := by decide +kernel
theorem dX7_ranked_18 : decode cX7_ranked 18 = .ok (.aload_n 0, 1) := by decide +kernel
theorem dX7_ranked_19 : decode cX7_ranked 19 = .ok (.getfield 28, 3) := by decide +kernel
theorem dX7_ranked_22 : decode cX7_ranked 22 = .ok (.getfield 162, 3) := by decide +kernel
theorem dX7_ranked_25 : decode cX7_ranked 25 = .ok (.iload_n 1, 1) := by decide +kernel
theorem dX7_ranked_26 : decode cX7_ranked 26 = .ok (.iaload, 1) := by decide +kernel
theorem dX7_ranked_27 : decode cX7_ranked 27 = .ok (.goto 5, 3) := by decide +kernel
theorem dX7_ranked_30 : decode cX7_ranked 30 = .ok (.bipush (-5), 2) := by decide +kernel
theorem dX7_ranked_32 : decode cX7_ranked 32 = .ok (.ireturn, 1) := by decide +kernel
theorem dX7_ruleOf_0 : decode cX7_ruleOf 0 = .ok (.iload_n 1, 1) := by decide +kernel
theorem dX7_ruleOf_1 : decode cX7_ruleOf 1 = .ok (.ifCond .lt 26, 3) := by decide +kernel
theorem dX7_ruleOf_4 : decode cX7_ruleOf 4 = .ok (.iload_n 1, 1) := by decide +kernel
theorem dX7_ruleOf_5 : decode cX7_ruleOf 5 = .ok (.aload_n 0, 1) := by decide +kernel
theorem dX7_ruleOf_6 : decode cX7_ruleOf 6 = .ok (.getfield 28, 3) := by decide +kernel
theorem dX7_ruleOf_9 : decode cX7_ruleOf 9 = .ok (.getfield 165, 3) := by decide +kernel
theorem dX7_ruleOf_12 : decode cX7_ruleOf 12 = .ok (.if_icmp .ge 15, 3) := by decide +kernel
theorem dX7_ruleOf_15 : decode cX7_ruleOf 15 = .ok (.aload_n 0, 1) := by decide +kernel
theorem dX7_ruleOf_16 : decode cX7_ruleOf 16 = .ok (.getfield 28, 3) := by decide +kernel
theorem dX7_ruleOf_19 : decode cX7_ruleOf 19 = .ok (.getfield 168, 3) := by decide +kernel
theorem dX7_ruleOf_22 : decode cX7_ruleOf 22 = .ok (.iload_n 1, 1) := by decide +kernel
theorem dX7_ruleOf_23 : decode cX7_ruleOf 23 = .ok (.iaload, 1) := by decide +kernel
theorem dX7_ruleOf_24 : decode cX7_ruleOf 24 = .ok (.goto 4, 3) := by decide +kernel
theorem dX7_ruleOf_27 : decode cX7_ruleOf 27 = .ok (.iconst (-1), 1) := by decide +kernel
theorem dX7_ruleOf_28 : decode cX7_ruleOf 28 = .ok (.ireturn, 1) := by decide +kernel
theorem dX7_mixOf_0 : decode cX7_mixOf 0 = .ok (.iload_n 1, 1) := by decide +kernel
theorem dX7_mixOf_1 : decode cX7_mixOf 1 = .ok (.invokestatic 171, 3) := by decide +kernel
theorem dX7_mixOf_4 : decode cX7_mixOf 4 = .ok (.ifCond .ne 6, 3) := by decide +kernel
theorem dX7_mixOf_7 : decode cX7_mixOf 7 = .ok (.bipush (-2), 2) := by decide +kernel
theorem dX7_mixOf_9 : decode cX7_mixOf 9 = .ok (.ireturn, 1) := by decide +kernel
theorem dX7_mixOf_10 : decode cX7_mixOf 10 = .ok (.iload_n 2, 1) := by decide +kernel
theorem dX7_mixOf_11 : decode cX7_mixOf 11 = .ok (.tableswitch 103 0 6 #[41, 46, 58, 64, 78, 84, 93], 41) := by decide +kernel
theorem dX7_mixOf_52 : decode cX7_mixOf 52 = .ok (.iload_n 1, 1) := by decide +kernel
theorem dX7_mixOf_53 : decode cX7_mixOf 53 = .ok (.invokestatic 146, 3) := by decide +kernel
theorem dX7_mixOf_56 : decode cX7_mixOf 56 = .ok (.ireturn, 1) := by decide +kernel
theorem dX7_mixOf_57 : decode cX7_mixOf 57 = .ok (.iload_n 1, 1) := by decide +kernel
theorem dX7_mixOf_58 : decode cX7_mixOf 58 = .ok (.aload_n 0, 1) := by decide +kernel
theorem dX7_mixOf_59 : decode cX7_mixOf 59 = .ok (.getfield 28, 3) := by decide +kernel
theorem dX7_mixOf_62 : decode cX7_mixOf 62 = .ok (.getfield 149, 3) := by decide +kernel
theorem dX7_mixOf_65 : decode cX7_mixOf 65 = .ok (.invokestatic 152, 3) := by decide +kernel
theorem dX7_mixOf_68 : decode cX7_mixOf 68 = .ok (.ireturn, 1) := by decide +kernel
theorem dX7_mixOf_69 : decode cX7_mixOf 69 = .ok (.aload_n 0, 1) := by decide +kernel
theorem dX7_mixOf_70 : decode cX7_mixOf 70 = .ok (.iload_n 1, 1) := by decide +kernel
theorem dX7_mixOf_71 : decode cX7_mixOf 71 = .ok (.invokevirtual 156, 3) := by decide +kernel
theorem dX7_mixOf_74 : decode cX7_mixOf 74 = .ok (.ireturn, 1) := by decide +kernel
theorem dX7_mixOf_75 : decode cX7_mixOf 75 = .ok (.aload_n 0, 1) := by decide +kernel
theorem dX7_mixOf_76 : decode cX7_mixOf 76 = .ok (.iload_n 1, 1) := by decide +kernel
theorem dX7_mixOf_77 : decode cX7_mixOf 77 = .ok (.invokevirtual 156, 3) := by decide +kernel
theorem dX7_mixOf_80 : decode cX7_mixOf 80 = .ok (.ifCond .ne 7, 3) := by decide +kernel
theorem dX7_mixOf_83 : decode cX7_mixOf 83 = .ok (.iconst 1, 1) := by decide +kernel
theorem dX7_mixOf_84 : decode cX7_mixOf 84 = .ok (.goto 4, 3) := by decide +kernel
theorem dX7_mixOf_87 : decode cX7_mixOf 87 = .ok (.iconst 0, 1) := by decide +kernel
theorem dX7_mixOf_88 : decode cX7_mixOf 88 = .ok (.ireturn, 1) := by decide +kernel
theorem dX7_mixOf_89 : decode cX7_mixOf 89 = .ok (.aload_n 0, 1) := by decide +kernel
theorem dX7_mixOf_90 : decode cX7_mixOf 90 = .ok (.iload_n 1, 1) := by decide +kernel
theorem dX7_mixOf_91 : decode cX7_mixOf 91 = .ok (.invokevirtual 159, 3) := by decide +kernel
theorem dX7_mixOf_94 : decode cX7_mixOf 94 = .ok (.ireturn, 1) := by decide +kernel
theorem dX7_mixOf_95 : decode cX7_mixOf 95 = .ok (.aload_n 0, 1) := by decide +kernel
theorem dX7_mixOf_96 : decode cX7_mixOf 96 = .ok (.getfield 10, 3) := by decide +kernel
theorem dX7_mixOf_99 : decode cX7_mixOf 99 = .ok (.iload_n 1, 1) := by decide +kernel
theorem dX7_mixOf_100 : decode cX7_mixOf 100 = .ok (.invokevirtual 175, 3) := by decide +kernel
theorem dX7_mixOf_103 : decode cX7_mixOf 103 = .ok (.ireturn, 1) := by decide +kernel
theorem dX7_mixOf_104 : decode cX7_mixOf 104 = .ok (.aload_n 0, 1) := by decide +kernel
theorem dX7_mixOf_105 : decode cX7_mixOf 105 = .ok (.aload_n 0, 1) := by decide +kernel
theorem dX7_mixOf_106 : decode cX7_mixOf 106 = .ok (.iload_n 1, 1) := by decide +kernel
theorem dX7_mixOf_107 : decode cX7_mixOf 107 = .ok (.invokevirtual 156, 3) := by decide +kernel
theorem dX7_mixOf_110 : decode cX7_mixOf 110 = .ok (.invokevirtual 178, 3) := by decide +kernel
theorem dX7_mixOf_113 : decode cX7_mixOf 113 = .ok (.ireturn, 1) := by decide +kernel
theorem dX7_mixOf_114 : decode cX7_mixOf 114 = .ok (.bipush (-2), 2) := by decide +kernel
theorem dX7_mixOf_116 : decode cX7_mixOf 116 = .ok (.ireturn, 1) := by decide +kernel
theorem dX7_together_0 : decode cX7_together 0 = .ok (.iload_n 1, 1) := by decide +kernel
theorem dX7_together_1 : decode cX7_together 1 = .ok (.invokestatic 171, 3) := by decide +kernel
theorem dX7_together_4 : decode cX7_together 4 = .ok (.ifCond .eq 22, 3) := by decide +kernel
theorem dX7_together_7 : decode cX7_together 7 = .ok (.iload_n 2, 1) := by decide +kernel
theorem dX7_together_8 : decode cX7_together 8 = .ok (.invokestatic 171, 3) := by decide +kernel
theorem dX7_together_11 : decode cX7_together 11 = .ok (.ifCond .eq 15, 3) := by decide +kernel
theorem dX7_together_14 : decode cX7_together 14 = .ok (.aload_n 0, 1) := by decide +kernel
theorem dX7_together_15 : decode cX7_together 15 = .ok (.getfield 10, 3) := by decide +kernel
theorem dX7_together_18 : decode cX7_together 18 = .ok (.iload_n 1, 1) := by decide +kernel
theorem dX7_together_19 : decode cX7_together 19 = .ok (.iload_n 2, 1) := by decide +kernel
theorem dX7_together_20 : decode cX7_together 20 = .ok (.invokevirtual 181, 3) := by decide +kernel
theorem dX7_together_23 : decode cX7_together 23 = .ok (.goto 5, 3) := by decide +kernel
theorem dX7_together_26 : decode cX7_together 26 = .ok (.bipush (-2), 2) := by decide +kernel
theorem dX7_together_28 : decode cX7_together 28 = .ok (.ireturn, 1) := by decide +kernel
theorem dX7_alike_0 : decode cX7_alike 0 = .ok (.iload_n 1, 1) := by decide +kernel
theorem dX7_alike_1 : decode cX7_alike 1 = .ok (.invokestatic 171, 3) := by decide +kernel
theorem dX7_alike_4 : decode cX7_alike 4 = .ok (.ifCond .eq 10, 3) := by decide +kernel
theorem dX7_alike_7 : decode cX7_alike 7 = .ok (.iload_n 2, 1) := by decide +kernel
theorem dX7_alike_8 : decode cX7_alike 8 = .ok (.invokestatic 171, 3) := by decide +kernel
theorem dX7_alike_11 : decode cX7_alike 11 = .ok (.ifCond .ne 6, 3) := by decide +kernel
theorem dX7_alike_14 : decode cX7_alike 14 = .ok (.bipush (-2), 2) := by decide +kernel
theorem dX7_alike_16 : decode cX7_alike 16 = .ok (.ireturn, 1) := by decide +kernel
theorem dX7_alike_17 : decode cX7_alike 17 = .ok (.iload_n 3, 1) := by decide +kernel
theorem dX7_alike_18 : decode cX7_alike 18 = .ok (.ifCond .ne 22, 3) := by decide +kernel
theorem dX7_alike_21 : decode cX7_alike 21 = .ok (.aload_n 0, 1) := by decide +kernel
theorem dX7_alike_22 : decode cX7_alike 22 = .ok (.iload_n 1, 1) := by decide +kernel
theorem dX7_alike_23 : decode cX7_alike 23 = .ok (.invokevirtual 156, 3) := by decide +kernel
theorem dX7_alike_26 : decode cX7_alike 26 = .ok (.aload_n 0, 1) := by decide +kernel
theorem dX7_alike_27 : decode cX7_alike 27 = .ok (.iload_n 2, 1) := by decide +kernel
theorem dX7_alike_28 : decode cX7_alike 28 = .ok (.invokevirtual 156, 3) := by decide +kernel
theorem dX7_alike_31 : decode cX7_alike 31 = .ok (.if_icmp .ne 7, 3) := by decide +kernel
theorem dX7_alike_34 : decode cX7_alike 34 = .ok (.iconst 1, 1) := by decide +kernel
theorem dX7_alike_35 : decode cX7_alike 35 = .ok (.goto 4, 3) := by decide +kernel
theorem dX7_alike_38 : decode cX7_alike 38 = .ok (.iconst 0, 1) := by decide +kernel
theorem dX7_alike_39 : decode cX7_alike 39 = .ok (.ireturn, 1) := by decide +kernel
theorem dX7_alike_40 : decode cX7_alike 40 = .ok (.aload_n 0, 1) := by decide +kernel
theorem dX7_alike_41 : decode cX7_alike 41 = .ok (.getfield 21, 3) := by decide +kernel
theorem dX7_alike_44 : decode cX7_alike 44 = .ok (.aload_n 0, 1) := by decide +kernel
theorem dX7_alike_45 : decode cX7_alike 45 = .ok (.getfield 28, 3) := by decide +kernel
theorem dX7_alike_48 : decode cX7_alike 48 = .ok (.invokevirtual 184, 3) := by decide +kernel
theorem dX7_alike_51 : decode cX7_alike 51 = .ok (.aload_n 0, 1) := by decide +kernel
theorem dX7_alike_52 : decode cX7_alike 52 = .ok (.getfield 21, 3) := by decide +kernel
theorem dX7_alike_55 : decode cX7_alike 55 = .ok (.iload_n 1, 1) := by decide +kernel
theorem dX7_alike_56 : decode cX7_alike 56 = .ok (.iload_n 2, 1) := by decide +kernel
theorem dX7_alike_57 : decode cX7_alike 57 = .ok (.invokevirtual 187, 3) := by decide +kernel
theorem dX7_alike_60 : decode cX7_alike 60 = .ok (.ifCond .eq 7, 3) := by decide +kernel
theorem dX7_alike_63 : decode cX7_alike 63 = .ok (.iconst 1, 1) := by decide +kernel
theorem dX7_alike_64 : decode cX7_alike 64 = .ok (.goto 4, 3) := by decide +kernel
theorem dX7_alike_67 : decode cX7_alike 67 = .ok (.iconst 0, 1) := by decide +kernel
theorem dX7_alike_68 : decode cX7_alike 68 = .ok (.ireturn, 1) := by decide +kernel
theorem dX7_shelf_0 : decode cX7_shelf 0 = .ok (.iload_n 1, 1) := by decide +kernel
theorem dX7_shelf_1 : decode cX7_shelf 1 = .ok (.ifCond .lt 12, 3) := by decide +kernel
theorem dX7_shelf_4 : decode cX7_shelf 4 = .ok (.iload_n 2, 1) := by decide +kernel
theorem dX7_shelf_5 : decode cX7_shelf 5 = .ok (.ifCond .lt 8, 3) := by decide +kernel
theorem dX7_shelf_8 : decode cX7_shelf 8 = .ok (.iload_n 2, 1) := by decide +kernel
theorem dX7_shelf_9 : decode cX7_shelf 9 = .ok (.iconst 3, 1) := by decide +kernel
theorem dX7_shelf_10 : decode cX7_shelf 10 = .ok (.if_icmp .le 6, 3) := by decide +kernel
theorem dX7_shelf_13 : decode cX7_shelf 13 = .ok (.bipush (-2), 2) := by decide +kernel
theorem dX7_shelf_15 : decode cX7_shelf 15 = .ok (.ireturn, 1) := by decide +kernel
theorem dX7_shelf_16 : decode cX7_shelf 16 = .ok (.aload_n 0, 1) := by decide +kernel
theorem dX7_shelf_17 : decode cX7_shelf 17 = .ok (.getfield 21, 3) := by decide +kernel
theorem dX7_shelf_20 : decode cX7_shelf 20 = .ok (.aload_n 0, 1) := by decide +kernel
theorem dX7_shelf_21 : decode cX7_shelf 21 = .ok (.getfield 28, 3) := by decide +kernel
theorem dX7_shelf_24 : decode cX7_shelf 24 = .ok (.invokevirtual 184, 3) := by decide +kernel
theorem dX7_shelf_27 : decode cX7_shelf 27 = .ok (.aload_n 0, 1) := by decide +kernel
theorem dX7_shelf_28 : decode cX7_shelf 28 = .ok (.iload_n 1, 1) := by decide +kernel
theorem dX7_shelf_29 : decode cX7_shelf 29 = .ok (.invokevirtual 191, 3) := by decide +kernel
theorem dX7_shelf_32 : decode cX7_shelf 32 = .ok (.istore_n 3, 1) := by decide +kernel
theorem dX7_shelf_33 : decode cX7_shelf 33 = .ok (.iload_n 3, 1) := by decide +kernel
theorem dX7_shelf_34 : decode cX7_shelf 34 = .ok (.ifCond .ge 6, 3) := by decide +kernel
theorem dX7_shelf_37 : decode cX7_shelf 37 = .ok (.bipush (-5), 2) := by decide +kernel
theorem dX7_shelf_39 : decode cX7_shelf 39 = .ok (.ireturn, 1) := by decide +kernel
theorem dX7_shelf_40 : decode cX7_shelf 40 = .ok (.iload_n 2, 1) := by decide +kernel
theorem dX7_shelf_41 : decode cX7_shelf 41 = .ok (.tableswitch 41 0 2 #[27, 29, 35], 27) := by decide +kernel
theorem dX7_shelf_68 : decode cX7_shelf 68 = .ok (.iload_n 3, 1) := by decide +kernel
theorem dX7_shelf_69 : decode cX7_shelf 69 = .ok (.ireturn, 1) := by decide +kernel
theorem dX7_shelf_70 : decode cX7_shelf 70 = .ok (.aload_n 0, 1) := by decide +kernel
theorem dX7_shelf_71 : decode cX7_shelf 71 = .ok (.iload_n 3, 1) := by decide +kernel
theorem dX7_shelf_72 : decode cX7_shelf 72 = .ok (.invokevirtual 178, 3) := by decide +kernel
theorem dX7_shelf_75 : decode cX7_shelf 75 = .ok (.ireturn, 1) := by decide +kernel
theorem dX7_shelf_76 : decode cX7_shelf 76 = .ok (.aload_n 0, 1) := by decide +kernel
theorem dX7_shelf_77 : decode cX7_shelf 77 = .ok (.iload_n 3, 1) := by decide +kernel
theorem dX7_shelf_78 : decode cX7_shelf 78 = .ok (.invokevirtual 194, 3) := by decide +kernel
theorem dX7_shelf_81 : decode cX7_shelf 81 = .ok (.ireturn, 1) := by decide +kernel
theorem dX7_shelf_82 : decode cX7_shelf 82 = .ok (.aload_n 0, 1) := by decide +kernel
theorem dX7_shelf_83 : decode cX7_shelf 83 = .ok (.iload_n 3, 1) := by decide +kernel
theorem dX7_shelf_84 : decode cX7_shelf 84 = .ok (.invokevirtual 197, 3) := by decide +kernel
theorem dX7_shelf_87 : decode cX7_shelf 87 = .ok (.ireturn, 1) := by decide +kernel
theorem dX7_waiting_0 : decode cX7_waiting 0 = .ok (.iload_n 1, 1) := by decide +kernel
theorem dX7_waiting_1 : decode cX7_waiting 1 = .ok (.ifCond .ge 6, 3) := by decide +kernel
theorem dX7_waiting_4 : decode cX7_waiting 4 = .ok (.bipush (-2), 2) := by decide +kernel
theorem dX7_waiting_6 : decode cX7_waiting 6 = .ok (.ireturn, 1) := by decide +kernel
theorem dX7_waiting_7 : decode cX7_waiting 7 = .ok (.iload_n 1, 1) := by decide +kernel
theorem dX7_waiting_8 : decode cX7_waiting 8 = .ok (.aload_n 0, 1) := by decide +kernel
theorem dX7_waiting_9 : decode cX7_waiting 9 = .ok (.getfield 28, 3) := by decide +kernel
theorem dX7_waiting_12 : decode cX7_waiting 12 = .ok (.getfield 200, 3) := by decide +kernel
theorem dX7_waiting_15 : decode cX7_waiting 15 = .ok (.if_icmp .ge 15, 3) := by decide +kernel
theorem dX7_waiting_18 : decode cX7_waiting 18 = .ok (.aload_n 0, 1) := by decide +kernel
theorem dX7_waiting_19 : decode cX7_waiting 19 = .ok (.getfield 28, 3) := by decide +kernel
theorem dX7_waiting_22 : decode cX7_waiting 22 = .ok (.getfield 203, 3) := by decide +kernel
theorem dX7_waiting_25 : decode cX7_waiting 25 = .ok (.iload_n 1, 1) := by decide +kernel
theorem dX7_waiting_26 : decode cX7_waiting 26 = .ok (.iaload, 1) := by decide +kernel
theorem dX7_waiting_27 : decode cX7_waiting 27 = .ok (.goto 5, 3) := by decide +kernel
theorem dX7_waiting_30 : decode cX7_waiting 30 = .ok (.bipush (-5), 2) := by decide +kernel
theorem dX7_waiting_32 : decode cX7_waiting 32 = .ok (.ireturn, 1) := by decide +kernel
theorem dX7_count_0 : decode cX7_count 0 = .ok (.iload_n 1, 1) := by decide +kernel
theorem dX7_count_1 : decode cX7_count 1 = .ok (.tableswitch 163 0 17 #[87, 95, 103, 108, 117, 129, 134, 163, 163, 163, 163, 142, 163, 163, 163, 163, 147, 155], 87) := by decide +kernel
theorem dX7_count_88 : decode cX7_count 88 = .ok (.aload_n 0, 1) := by decide +kernel
theorem dX7_count_89 : decode cX7_count 89 = .ok (.getfield 28, 3) := by decide +kernel
theorem dX7_count_92 : decode cX7_count 92 = .ok (.getfield 133, 3) := by decide +kernel
theorem dX7_count_95 : decode cX7_count 95 = .ok (.ireturn, 1) := by decide +kernel
theorem dX7_count_96 : decode cX7_count 96 = .ok (.aload_n 0, 1) := by decide +kernel
theorem dX7_count_97 : decode cX7_count 97 = .ok (.getfield 28, 3) := by decide +kernel
theorem dX7_count_100 : decode cX7_count 100 = .ok (.getfield 165, 3) := by decide +kernel
theorem dX7_count_103 : decode cX7_count 103 = .ok (.ireturn, 1) := by decide +kernel
theorem dX7_count_104 : decode cX7_count 104 = .ok (.aload_n 0, 1) := by decide +kernel
theorem dX7_count_105 : decode cX7_count 105 = .ok (.invokevirtual 93, 3) := by decide +kernel
theorem dX7_count_108 : decode cX7_count 108 = .ok (.ireturn, 1) := by decide +kernel
theorem dX7_count_109 : decode cX7_count 109 = .ok (.getstatic 206, 3) := by decide +kernel
theorem dX7_count_112 : decode cX7_count 112 = .ok (.aload_n 0, 1) := by decide +kernel
theorem dX7_count_113 : decode cX7_count 113 = .ok (.invokevirtual 93, 3) := by decide +kernel
theorem dX7_count_116 : decode cX7_count 116 = .ok (.iaload, 1) := by decide +kernel
theorem dX7_count_117 : decode cX7_count 117 = .ok (.ireturn, 1) := by decide +kernel
theorem dX7_count_118 : decode cX7_count 118 = .ok (.getstatic 206, 3) := by decide +kernel
theorem dX7_count_121 : decode cX7_count 121 = .ok (.bipush 8, 2) := by decide +kernel
theorem dX7_count_123 : decode cX7_count 123 = .ok (.aload_n 0, 1) := by decide +kernel
theorem dX7_count_124 : decode cX7_count 124 = .ok (.invokevirtual 93, 3) := by decide +kernel
theorem dX7_count_127 : decode cX7_count 127 = .ok (.isub, 1) := by decide +kernel
theorem dX7_count_128 : decode cX7_count 128 = .ok (.iaload, 1) := by decide +kernel
theorem dX7_count_129 : decode cX7_count 129 = .ok (.ireturn, 1) := by decide +kernel
theorem dX7_count_130 : decode cX7_count 130 = .ok (.aload_n 0, 1) := by decide +kernel
theorem dX7_count_131 : decode cX7_count 131 = .ok (.invokevirtual 209, 3) := by decide +kernel
theorem dX7_count_134 : decode cX7_count 134 = .ok (.ireturn, 1) := by decide +kernel
theorem dX7_count_135 : decode cX7_count 135 = .ok (.aload_n 0, 1) := by decide +kernel
theorem dX7_count_136 : decode cX7_count 136 = .ok (.getfield 28, 3) := by decide +kernel
theorem dX7_count_139 : decode cX7_count 139 = .ok (.getfield 200, 3) := by decide +kernel
theorem dX7_count_142 : decode cX7_count 142 = .ok (.ireturn, 1) := by decide +kernel
theorem dX7_count_143 : decode cX7_count 143 = .ok (.aload_n 0, 1) := by decide +kernel
theorem dX7_count_144 : decode cX7_count 144 = .ok (.invokevirtual 212, 3) := by decide +kernel
theorem dX7_count_147 : decode cX7_count 147 = .ok (.ireturn, 1) := by decide +kernel
theorem dX7_count_148 : decode cX7_count 148 = .ok (.aload_n 0, 1) := by decide +kernel
theorem dX7_count_149 : decode cX7_count 149 = .ok (.getfield 42, 3) := by decide +kernel
theorem dX7_count_152 : decode cX7_count 152 = .ok (.getfield 215, 3) := by decide +kernel
theorem dX7_count_155 : decode cX7_count 155 = .ok (.ireturn, 1) := by decide +kernel
theorem dX7_count_156 : decode cX7_count 156 = .ok (.aload_n 0, 1) := by decide +kernel
theorem dX7_count_157 : decode cX7_count 157 = .ok (.getfield 58, 3) := by decide +kernel
theorem dX7_count_160 : decode cX7_count 160 = .ok (.getfield 218, 3) := by decide +kernel
theorem dX7_count_163 : decode cX7_count 163 = .ok (.ireturn, 1) := by decide +kernel
theorem dX7_count_164 : decode cX7_count 164 = .ok (.aload_n 0, 1) := by decide +kernel
theorem dX7_count_165 : decode cX7_count 165 = .ok (.iload_n 1, 1) := by decide +kernel
theorem dX7_count_166 : decode cX7_count 166 = .ok (.invokevirtual 221, 3) := by decide +kernel
theorem dX7_count_169 : decode cX7_count 169 = .ok (.ireturn, 1) := by decide +kernel
theorem dX7_lost_0 : decode cX7_lost 0 = .ok (.aload_n 0, 1) := by decide +kernel
theorem dX7_lost_1 : decode cX7_lost 1 = .ok (.getfield 28, 3) := by decide +kernel
theorem dX7_lost_4 : decode cX7_lost 4 = .ok (.getfield 224, 3) := by decide +kernel
theorem dX7_lost_7 : decode cX7_lost 7 = .ok (.iconst 0, 1) := by decide +kernel
theorem dX7_lost_8 : decode cX7_lost 8 = .ok (.iaload, 1) := by decide +kernel
theorem dX7_lost_9 : decode cX7_lost 9 = .ok (.istore_n 1, 1) := by decide +kernel
theorem dX7_lost_10 : decode cX7_lost 10 = .ok (.iload_n 1, 1) := by decide +kernel
theorem dX7_lost_11 : decode cX7_lost 11 = .ok (.ifCond .ne 5, 3) := by decide +kernel
theorem dX7_lost_14 : decode cX7_lost 14 = .ok (.dconst 0, 1) := by decide +kernel
theorem dX7_lost_15 : decode cX7_lost 15 = .ok (.dreturn, 1) := by decide +kernel
theorem dX7_lost_16 : decode cX7_lost 16 = .ok (.aload_n 0, 1) := by decide +kernel
theorem dX7_lost_17 : decode cX7_lost 17 = .ok (.getfield 28, 3) := by decide +kernel
theorem dX7_lost_20 : decode cX7_lost 20 = .ok (.getfield 224, 3) := by decide +kernel
theorem dX7_lost_23 : decode cX7_lost 23 = .ok (.iconst 1, 1) := by decide +kernel
theorem dX7_lost_24 : decode cX7_lost 24 = .ok (.iaload, 1) := by decide +kernel
theorem dX7_lost_25 : decode cX7_lost 25 = .ok (.i2d, 1) := by decide +kernel
theorem dX7_lost_26 : decode cX7_lost 26 = .ok (.iload_n 1, 1) := by decide +kernel
theorem dX7_lost_27 : decode cX7_lost 27 = .ok (.i2d, 1) := by decide +kernel
theorem dX7_lost_28 : decode cX7_lost 28 = .ok (.ddiv, 1) := by decide +kernel
theorem dX7_lost_29 : decode cX7_lost 29 = .ok (.dreturn, 1) := by decide +kernel
theorem dX7_accountTold_0 : decode cX7_accountTold 0 = .ok (.iload_n 1, 1) := by decide +kernel
theorem dX7_accountTold_1 : decode cX7_accountTold 1 = .ok (.tableswitch 133 7 15 #[51, 61, 71, 81, 133, 91, 101, 111, 122], 51) := by decide +kernel
theorem dX7_accountTold_52 : decode cX7_accountTold 52 = .ok (.aload_n 0, 1) := by decide +kernel
theorem dX7_accountTold_53 : decode cX7_accountTold 53 = .ok (.getfield 28, 3) := by decide +kernel
theorem dX7_accountTold_56 : decode cX7_accountTold 56 = .ok (.getfield 224, 3) := by decide +kernel
theorem dX7_accountTold_59 : decode cX7_accountTold 59 = .ok (.iconst 0, 1) := by decide +kernel
theorem dX7_accountTold_60 : decode cX7_accountTold 60 = .ok (.iaload, 1) := by decide +kernel
theorem dX7_accountTold_61 : decode cX7_accountTold 61 = .ok (.ireturn, 1) := by decide +kernel
theorem dX7_accountTold_62 : decode cX7_accountTold 62 = .ok (.aload_n 0, 1) := by decide +kernel
theorem dX7_accountTold_63 : decode cX7_accountTold 63 = .ok (.getfield 28, 3) := by decide +kernel
theorem dX7_accountTold_66 : decode cX7_accountTold 66 = .ok (.getfield 224, 3) := by decide +kernel
theorem dX7_accountTold_69 : decode cX7_accountTold 69 = .ok (.iconst 1, 1) := by decide +kernel
theorem dX7_accountTold_70 : decode cX7_accountTold 70 = .ok (.iaload, 1) := by decide +kernel
theorem dX7_accountTold_71 : decode cX7_accountTold 71 = .ok (.ireturn, 1) := by decide +kernel
theorem dX7_accountTold_72 : decode cX7_accountTold 72 = .ok (.aload_n 0, 1) := by decide +kernel
theorem dX7_accountTold_73 : decode cX7_accountTold 73 = .ok (.getfield 28, 3) := by decide +kernel
theorem dX7_accountTold_76 : decode cX7_accountTold 76 = .ok (.getfield 224, 3) := by decide +kernel
theorem dX7_accountTold_79 : decode cX7_accountTold 79 = .ok (.iconst 2, 1) := by decide +kernel
theorem dX7_accountTold_80 : decode cX7_accountTold 80 = .ok (.iaload, 1) := by decide +kernel
theorem dX7_accountTold_81 : decode cX7_accountTold 81 = .ok (.ireturn, 1) := by decide +kernel
theorem dX7_accountTold_82 : decode cX7_accountTold 82 = .ok (.aload_n 0, 1) := by decide +kernel
theorem dX7_accountTold_83 : decode cX7_accountTold 83 = .ok (.getfield 28, 3) := by decide +kernel
theorem dX7_accountTold_86 : decode cX7_accountTold 86 = .ok (.getfield 224, 3) := by decide +kernel
theorem dX7_accountTold_89 : decode cX7_accountTold 89 = .ok (.iconst 3, 1) := by decide +kernel
theorem dX7_accountTold_90 : decode cX7_accountTold 90 = .ok (.iaload, 1) := by decide +kernel
theorem dX7_accountTold_91 : decode cX7_accountTold 91 = .ok (.ireturn, 1) := by decide +kernel
theorem dX7_accountTold_92 : decode cX7_accountTold 92 = .ok (.aload_n 0, 1) := by decide +kernel
theorem dX7_accountTold_93 : decode cX7_accountTold 93 = .ok (.getfield 28, 3) := by decide +kernel
theorem dX7_accountTold_96 : decode cX7_accountTold 96 = .ok (.getfield 224, 3) := by decide +kernel
theorem dX7_accountTold_99 : decode cX7_accountTold 99 = .ok (.iconst 4, 1) := by decide +kernel
theorem dX7_accountTold_100 : decode cX7_accountTold 100 = .ok (.iaload, 1) := by decide +kernel
theorem dX7_accountTold_101 : decode cX7_accountTold 101 = .ok (.ireturn, 1) := by decide +kernel
theorem dX7_accountTold_102 : decode cX7_accountTold 102 = .ok (.aload_n 0, 1) := by decide +kernel
theorem dX7_accountTold_103 : decode cX7_accountTold 103 = .ok (.getfield 28, 3) := by decide +kernel
theorem dX7_accountTold_106 : decode cX7_accountTold 106 = .ok (.getfield 224, 3) := by decide +kernel
theorem dX7_accountTold_109 : decode cX7_accountTold 109 = .ok (.iconst 5, 1) := by decide +kernel
theorem dX7_accountTold_110 : decode cX7_accountTold 110 = .ok (.iaload, 1) := by decide +kernel
theorem dX7_accountTold_111 : decode cX7_accountTold 111 = .ok (.ireturn, 1) := by decide +kernel
theorem dX7_accountTold_112 : decode cX7_accountTold 112 = .ok (.aload_n 0, 1) := by decide +kernel
theorem dX7_accountTold_113 : decode cX7_accountTold 113 = .ok (.getfield 28, 3) := by decide +kernel
theorem dX7_accountTold_116 : decode cX7_accountTold 116 = .ok (.getfield 224, 3) := by decide +kernel
theorem dX7_accountTold_119 : decode cX7_accountTold 119 = .ok (.bipush 6, 2) := by decide +kernel
theorem dX7_accountTold_121 : decode cX7_accountTold 121 = .ok (.iaload, 1) := by decide +kernel
theorem dX7_accountTold_122 : decode cX7_accountTold 122 = .ok (.ireturn, 1) := by decide +kernel
theorem dX7_accountTold_123 : decode cX7_accountTold 123 = .ok (.aload_n 0, 1) := by decide +kernel
theorem dX7_accountTold_124 : decode cX7_accountTold 124 = .ok (.getfield 28, 3) := by decide +kernel
theorem dX7_accountTold_127 : decode cX7_accountTold 127 = .ok (.getfield 224, 3) := by decide +kernel
theorem dX7_accountTold_130 : decode cX7_accountTold 130 = .ok (.bipush 7, 2) := by decide +kernel
theorem dX7_accountTold_132 : decode cX7_accountTold 132 = .ok (.iaload, 1) := by decide +kernel
theorem dX7_accountTold_133 : decode cX7_accountTold 133 = .ok (.ireturn, 1) := by decide +kernel
theorem dX7_accountTold_134 : decode cX7_accountTold 134 = .ok (.bipush (-2), 2) := by decide +kernel
theorem dX7_accountTold_136 : decode cX7_accountTold 136 = .ok (.ireturn, 1) := by decide +kernel
theorem dX7_fewest_0 : decode cX7_fewest 0 = .ok (.iload_n 1, 1) := by decide +kernel
theorem dX7_fewest_1 : decode cX7_fewest 1 = .ok (.invokestatic 171, 3) := by decide +kernel
theorem dX7_fewest_4 : decode cX7_fewest 4 = .ok (.ifCond .eq 12, 3) := by decide +kernel
theorem dX7_fewest_7 : decode cX7_fewest 7 = .ok (.iload_n 2, 1) := by decide +kernel
theorem dX7_fewest_8 : decode cX7_fewest 8 = .ok (.ifCond .lt 8, 3) := by decide +kernel
theorem dX7_fewest_11 : decode cX7_fewest 11 = .ok (.iload_n 2, 1) := by decide +kernel
theorem dX7_fewest_12 : decode cX7_fewest 12 = .ok (.iconst 1, 1) := by decide +kernel
theorem dX7_fewest_13 : decode cX7_fewest 13 = .ok (.if_icmp .le 6, 3) := by decide +kernel
theorem dX7_fewest_16 : decode cX7_fewest 16 = .ok (.bipush (-2), 2) := by decide +kernel
theorem dX7_fewest_18 : decode cX7_fewest 18 = .ok (.ireturn, 1) := by decide +kernel
theorem dX7_fewest_19 : decode cX7_fewest 19 = .ok (.aload_n 0, 1) := by decide +kernel
theorem dX7_fewest_20 : decode cX7_fewest 20 = .ok (.getfield 21, 3) := by decide +kernel
theorem dX7_fewest_23 : decode cX7_fewest 23 = .ok (.aload_n 0, 1) := by decide +kernel
theorem dX7_fewest_24 : decode cX7_fewest 24 = .ok (.getfield 28, 3) := by decide +kernel
theorem dX7_fewest_27 : decode cX7_fewest 27 = .ok (.invokevirtual 184, 3) := by decide +kernel
theorem dX7_fewest_30 : decode cX7_fewest 30 = .ok (.aload_n 0, 1) := by decide +kernel
theorem dX7_fewest_31 : decode cX7_fewest 31 = .ok (.getfield 65, 3) := by decide +kernel
theorem dX7_fewest_34 : decode cX7_fewest 34 = .ok (.aload_n 0, 1) := by decide +kernel
theorem dX7_fewest_35 : decode cX7_fewest 35 = .ok (.getfield 21, 3) := by decide +kernel
theorem dX7_fewest_38 : decode cX7_fewest 38 = .ok (.aload_n 0, 1) := by decide +kernel
theorem dX7_fewest_39 : decode cX7_fewest 39 = .ok (.getfield 28, 3) := by decide +kernel
theorem dX7_fewest_42 : decode cX7_fewest 42 = .ok (.invokevirtual 227, 3) := by decide +kernel
theorem dX7_fewest_45 : decode cX7_fewest 45 = .ok (.aload_n 0, 1) := by decide +kernel
theorem dX7_fewest_46 : decode cX7_fewest 46 = .ok (.getfield 65, 3) := by decide +kernel
theorem dX7_fewest_49 : decode cX7_fewest 49 = .ok (.aload_n 0, 1) := by decide +kernel
theorem dX7_fewest_50 : decode cX7_fewest 50 = .ok (.getfield 21, 3) := by decide +kernel
theorem dX7_fewest_53 : decode cX7_fewest 53 = .ok (.iload_n 1, 1) := by decide +kernel
theorem dX7_fewest_54 : decode cX7_fewest 54 = .ok (.invokevirtual 231, 3) := by decide +kernel
theorem dX7_fewest_57 : decode cX7_fewest 57 = .ok (.invokevirtual 234, 3) := by decide +kernel
theorem dX7_fewest_60 : decode cX7_fewest 60 = .ok (.istore_n 3, 1) := by decide +kernel
theorem dX7_fewest_61 : decode cX7_fewest 61 = .ok (.iload_n 3, 1) := by decide +kernel
theorem dX7_fewest_62 : decode cX7_fewest 62 = .ok (.ifCond .ge 6, 3) := by decide +kernel
theorem dX7_fewest_65 : decode cX7_fewest 65 = .ok (.bipush (-5), 2) := by decide +kernel
theorem dX7_fewest_67 : decode cX7_fewest 67 = .ok (.ireturn, 1) := by decide +kernel
theorem dX7_fewest_68 : decode cX7_fewest 68 = .ok (.iload_n 2, 1) := by decide +kernel
theorem dX7_fewest_69 : decode cX7_fewest 69 = .ok (.ifCond .ne 10, 3) := by decide +kernel
theorem dX7_fewest_72 : decode cX7_fewest 72 = .ok (.iload_n 3, 1) := by decide +kernel
theorem dX7_fewest_73 : decode cX7_fewest 73 = .ok (.invokestatic 237, 3) := by decide +kernel
theorem dX7_fewest_76 : decode cX7_fewest 76 = .ok (.goto 4, 3) := by decide +kernel
theorem dX7_fewest_79 : decode cX7_fewest 79 = .ok (.iload_n 3, 1) := by decide +kernel
theorem dX7_fewest_80 : decode cX7_fewest 80 = .ok (.ireturn, 1) := by decide +kernel
theorem dX7_makes_0 : decode cX7_makes 0 = .ok (.aload_n 0, 1) := by decide +kernel
theorem dX7_makes_1 : decode cX7_makes 1 = .ok (.getfield 21, 3) := by decide +kernel
theorem dX7_makes_4 : decode cX7_makes 4 = .ok (.aload_n 0, 1) := by decide +kernel
theorem dX7_makes_5 : decode cX7_makes 5 = .ok (.getfield 28, 3) := by decide +kernel
theorem dX7_makes_8 : decode cX7_makes 8 = .ok (.invokevirtual 184, 3) := by decide +kernel
theorem dX7_makes_11 : decode cX7_makes 11 = .ok (.aload_n 0, 1) := by decide +kernel
theorem dX7_makes_12 : decode cX7_makes 12 = .ok (.getfield 65, 3) := by decide +kernel
theorem dX7_makes_15 : decode cX7_makes 15 = .ok (.aload_n 0, 1) := by decide +kernel
theorem dX7_makes_16 : decode cX7_makes 16 = .ok (.getfield 21, 3) := by decide +kernel
theorem dX7_makes_19 : decode cX7_makes 19 = .ok (.aload_n 0, 1) := by decide +kernel
theorem dX7_makes_20 : decode cX7_makes 20 = .ok (.getfield 28, 3) := by decide +kernel
theorem dX7_makes_23 : decode cX7_makes 23 = .ok (.invokevirtual 227, 3) := by decide +kernel
theorem dX7_makes_26 : decode cX7_makes 26 = .ok (.aload_n 0, 1) := by decide +kernel
theorem dX7_makes_27 : decode cX7_makes 27 = .ok (.getfield 65, 3) := by decide +kernel
theorem dX7_makes_30 : decode cX7_makes 30 = .ok (.invokevirtual 242, 3) := by decide +kernel
theorem dX7_makes_33 : decode cX7_makes 33 = .ok (.ireturn, 1) := by decide +kernel
theorem dX7_needless_0 : decode cX7_needless 0 = .ok (.aload_n 0, 1) := by decide +kernel
theorem dX7_needless_1 : decode cX7_needless 1 = .ok (.getfield 21, 3) := by decide +kernel
theorem dX7_needless_4 : decode cX7_needless 4 = .ok (.aload_n 0, 1) := by decide +kernel
theorem dX7_needless_5 : decode cX7_needless 5 = .ok (.getfield 28, 3) := by decide +kernel
theorem dX7_needless_8 : decode cX7_needless 8 = .ok (.invokevirtual 184, 3) := by decide +kernel
theorem dX7_needless_11 : decode cX7_needless 11 = .ok (.aload_n 0, 1) := by decide +kernel
theorem dX7_needless_12 : decode cX7_needless 12 = .ok (.getfield 21, 3) := by decide +kernel
theorem dX7_needless_15 : decode cX7_needless 15 = .ok (.invokevirtual 245, 3) := by decide +kernel
theorem dX7_needless_18 : decode cX7_needless 18 = .ok (.ireturn, 1) := by decide +kernel
theorem dX7_ifPoured_0 : decode cX7_ifPoured 0 = .ok (.aload_n 0, 1) := by decide +kernel
theorem dX7_ifPoured_1 : decode cX7_ifPoured 1 = .ok (.getfield 28, 3) := by decide +kernel
theorem dX7_ifPoured_4 : decode cX7_ifPoured 4 = .ok (.iload_n 1, 1) := by decide +kernel
theorem dX7_ifPoured_5 : decode cX7_ifPoured 5 = .ok (.invokevirtual 140, 3) := by decide +kernel
theorem dX7_ifPoured_8 : decode cX7_ifPoured 8 = .ok (.istore_n 3, 1) := by decide +kernel
theorem dX7_ifPoured_9 : decode cX7_ifPoured 9 = .ok (.aload_n 0, 1) := by decide +kernel
theorem dX7_ifPoured_10 : decode cX7_ifPoured 10 = .ok (.getfield 28, 3) := by decide +kernel
theorem dX7_ifPoured_13 : decode cX7_ifPoured 13 = .ok (.iload_n 2, 1) := by decide +kernel
theorem dX7_ifPoured_14 : decode cX7_ifPoured 14 = .ok (.invokevirtual 140, 3) := by decide +kernel
theorem dX7_ifPoured_17 : decode cX7_ifPoured 17 = .ok (.istore 4, 2) := by decide +kernel
theorem dX7_ifPoured_19 : decode cX7_ifPoured 19 = .ok (.iload_n 3, 1) := by decide +kernel
theorem dX7_ifPoured_20 : decode cX7_ifPoured 20 = .ok (.ifCond .lt 8, 3) := by decide +kernel
theorem dX7_ifPoured_23 : decode cX7_ifPoured 23 = .ok (.iload 4, 2) := by decide +kernel
theorem dX7_ifPoured_25 : decode cX7_ifPoured 25 = .ok (.ifCond .ge 5, 3) := by decide +kernel
theorem dX7_ifPoured_28 : decode cX7_ifPoured 28 = .ok (.iconst (-1), 1) := by decide +kernel
theorem dX7_ifPoured_29 : decode cX7_ifPoured 29 = .ok (.ireturn, 1) := by decide +kernel
theorem dX7_ifPoured_30 : decode cX7_ifPoured 30 = .ok (.iload_n 3, 1) := by decide +kernel
theorem dX7_ifPoured_31 : decode cX7_ifPoured 31 = .ok (.iload 4, 2) := by decide +kernel
theorem dX7_ifPoured_33 : decode cX7_ifPoured 33 = .ok (.if_icmp .ne 6, 3) := by decide +kernel
theorem dX7_ifPoured_36 : decode cX7_ifPoured 36 = .ok (.bipush (-2), 2) := by decide +kernel
theorem dX7_ifPoured_38 : decode cX7_ifPoured 38 = .ok (.ireturn, 1) := by decide +kernel
theorem dX7_ifPoured_39 : decode cX7_ifPoured 39 = .ok (.aload_n 0, 1) := by decide +kernel
theorem dX7_ifPoured_40 : decode cX7_ifPoured 40 = .ok (.aload_n 0, 1) := by decide +kernel
theorem dX7_ifPoured_41 : decode cX7_ifPoured 41 = .ok (.getfield 10, 3) := by decide +kernel
theorem dX7_ifPoured_44 : decode cX7_ifPoured 44 = .ok (.aload_n 0, 1) := by decide +kernel
theorem dX7_ifPoured_45 : decode cX7_ifPoured 45 = .ok (.getfield 28, 3) := by decide +kernel
theorem dX7_ifPoured_48 : decode cX7_ifPoured 48 = .ok (.getfield 143, 3) := by decide +kernel
theorem dX7_ifPoured_51 : decode cX7_ifPoured 51 = .ok (.iload_n 3, 1) := by decide +kernel
theorem dX7_ifPoured_52 : decode cX7_ifPoured 52 = .ok (.iaload, 1) := by decide +kernel
theorem dX7_ifPoured_53 : decode cX7_ifPoured 53 = .ok (.aload_n 0, 1) := by decide +kernel
theorem dX7_ifPoured_54 : decode cX7_ifPoured 54 = .ok (.getfield 28, 3) := by decide +kernel
theorem dX7_ifPoured_57 : decode cX7_ifPoured 57 = .ok (.getfield 143, 3) := by decide +kernel
theorem dX7_ifPoured_60 : decode cX7_ifPoured 60 = .ok (.iload 4, 2) := by decide +kernel
theorem dX7_ifPoured_62 : decode cX7_ifPoured 62 = .ok (.iaload, 1) := by decide +kernel
theorem dX7_ifPoured_63 : decode cX7_ifPoured 63 = .ok (.invokevirtual 181, 3) := by decide +kernel
theorem dX7_ifPoured_66 : decode cX7_ifPoured 66 = .ok (.invokevirtual 156, 3) := by decide +kernel
theorem dX7_ifPoured_69 : decode cX7_ifPoured 69 = .ok (.ireturn, 1) := by decide +kernel
theorem dX7_strength_0 : decode cX7_strength 0 = .ok (.aload_n 0, 1) := by decide +kernel
theorem dX7_strength_1 : decode cX7_strength 1 = .ok (.getfield 21, 3) := by decide +kernel
theorem dX7_strength_4 : decode cX7_strength 4 = .ok (.aload_n 0, 1) := by decide +kernel
theorem dX7_strength_5 : decode cX7_strength 5 = .ok (.getfield 28, 3) := by decide +kernel
theorem dX7_strength_8 : decode cX7_strength 8 = .ok (.invokevirtual 184, 3) := by decide +kernel
theorem dX7_strength_11 : decode cX7_strength 11 = .ok (.aload_n 0, 1) := by decide +kernel
theorem dX7_strength_12 : decode cX7_strength 12 = .ok (.getfield 21, 3) := by decide +kernel
theorem dX7_strength_15 : decode cX7_strength 15 = .ok (.getfield 248, 3) := by decide +kernel
theorem dX7_strength_18 : decode cX7_strength 18 = .ok (.ireturn, 1) := by decide +kernel
theorem dX7_tasteOf_0 : decode cX7_tasteOf 0 = .ok (.aload_n 0, 1) := by decide +kernel
theorem dX7_tasteOf_1 : decode cX7_tasteOf 1 = .ok (.getfield 21, 3) := by decide +kernel
theorem dX7_tasteOf_4 : decode cX7_tasteOf 4 = .ok (.aload_n 0, 1) := by decide +kernel
theorem dX7_tasteOf_5 : decode cX7_tasteOf 5 = .ok (.getfield 28, 3) := by decide +kernel
theorem dX7_tasteOf_8 : decode cX7_tasteOf 8 = .ok (.invokevirtual 184, 3) := by decide +kernel
theorem dX7_tasteOf_11 : decode cX7_tasteOf 11 = .ok (.aload_n 0, 1) := by decide +kernel
theorem dX7_tasteOf_12 : decode cX7_tasteOf 12 = .ok (.getfield 21, 3) := by decide +kernel
theorem dX7_tasteOf_15 : decode cX7_tasteOf 15 = .ok (.iload_n 1, 1) := by decide +kernel
theorem dX7_tasteOf_16 : decode cX7_tasteOf 16 = .ok (.invokevirtual 231, 3) := by decide +kernel
theorem dX7_tasteOf_19 : decode cX7_tasteOf 19 = .ok (.ireturn, 1) := by decide +kernel
theorem dX7_cheapestLike_0 : decode cX7_cheapestLike 0 = .ok (.aload_n 0, 1) := by decide +kernel
theorem dX7_cheapestLike_1 : decode cX7_cheapestLike 1 = .ok (.getfield 21, 3) := by decide +kernel
theorem dX7_cheapestLike_4 : decode cX7_cheapestLike 4 = .ok (.aload_n 0, 1) := by decide +kernel
theorem dX7_cheapestLike_5 : decode cX7_cheapestLike 5 = .ok (.getfield 28, 3) := by decide +kernel
theorem dX7_cheapestLike_8 : decode cX7_cheapestLike 8 = .ok (.invokevirtual 184, 3) := by decide +kernel
theorem dX7_cheapestLike_11 : decode cX7_cheapestLike 11 = .ok (.aload_n 0, 1) := by decide +kernel
theorem dX7_cheapestLike_12 : decode cX7_cheapestLike 12 = .ok (.getfield 21, 3) := by decide +kernel
theorem dX7_cheapestLike_15 : decode cX7_cheapestLike 15 = .ok (.iload_n 1, 1) := by decide +kernel
theorem dX7_cheapestLike_16 : decode cX7_cheapestLike 16 = .ok (.aload_n 0, 1) := by decide +kernel
theorem dX7_cheapestLike_17 : decode cX7_cheapestLike 17 = .ok (.getfield 28, 3) := by decide +kernel
theorem dX7_cheapestLike_20 : decode cX7_cheapestLike 20 = .ok (.getfield 149, 3) := by decide +kernel
theorem dX7_cheapestLike_23 : decode cX7_cheapestLike 23 = .ok (.invokevirtual 250, 3) := by decide +kernel
theorem dX7_cheapestLike_26 : decode cX7_cheapestLike 26 = .ok (.ireturn, 1) := by decide +kernel
theorem dX7_shelves_0 : decode cX7_shelves 0 = .ok (.aload_n 0, 1) := by decide +kernel
theorem dX7_shelves_1 : decode cX7_shelves 1 = .ok (.getfield 21, 3) := by decide +kernel
theorem dX7_shelves_4 : decode cX7_shelves 4 = .ok (.aload_n 0, 1) := by decide +kernel
theorem dX7_shelves_5 : decode cX7_shelves 5 = .ok (.getfield 28, 3) := by decide +kernel
theorem dX7_shelves_8 : decode cX7_shelves 8 = .ok (.invokevirtual 184, 3) := by decide +kernel
theorem dX7_shelves_11 : decode cX7_shelves 11 = .ok (.iconst 0, 1) := by decide +kernel
theorem dX7_shelves_12 : decode cX7_shelves 12 = .ok (.istore_n 1, 1) := by decide +kernel
theorem dX7_shelves_13 : decode cX7_shelves 13 = .ok (.aload_n 0, 1) := by decide +kernel
theorem dX7_shelves_14 : decode cX7_shelves 14 = .ok (.iconst (-1), 1) := by decide +kernel
theorem dX7_shelves_15 : decode cX7_shelves 15 = .ok (.invokevirtual 252, 3) := by decide +kernel
theorem dX7_shelves_18 : decode cX7_shelves 18 = .ok (.istore_n 2, 1) := by decide +kernel
theorem dX7_shelves_19 : decode cX7_shelves 19 = .ok (.iconst 0, 1) := by decide +kernel
theorem dX7_shelves_20 : decode cX7_shelves 20 = .ok (.istore_n 3, 1) := by decide +kernel
theorem dX7_shelves_21 : decode cX7_shelves 21 = .ok (.iload_n 3, 1) := by decide +kernel
theorem dX7_shelves_22 : decode cX7_shelves 22 = .ok (.aload_n 0, 1) := by decide +kernel
theorem dX7_shelves_23 : decode cX7_shelves 23 = .ok (.getfield 28, 3) := by decide +kernel
theorem dX7_shelves_26 : decode cX7_shelves 26 = .ok (.getfield 133, 3) := by decide +kernel
theorem dX7_shelves_29 : decode cX7_shelves 29 = .ok (.if_icmp .ge 22, 3) := by decide +kernel
theorem dX7_shelves_32 : decode cX7_shelves 32 = .ok (.iload_n 2, 1) := by decide +kernel
theorem dX7_shelves_33 : decode cX7_shelves 33 = .ok (.ifCond .lt 18, 3) := by decide +kernel
theorem dX7_shelves_36 : decode cX7_shelves 36 = .ok (.iinc 1 1, 3) := by decide +kernel
theorem dX7_shelves_39 : decode cX7_shelves 39 = .ok (.aload_n 0, 1) := by decide +kernel
theorem dX7_shelves_40 : decode cX7_shelves 40 = .ok (.iload_n 2, 1) := by decide +kernel
theorem dX7_shelves_41 : decode cX7_shelves 41 = .ok (.invokevirtual 252, 3) := by decide +kernel
theorem dX7_shelves_44 : decode cX7_shelves 44 = .ok (.istore_n 2, 1) := by decide +kernel
theorem dX7_shelves_45 : decode cX7_shelves 45 = .ok (.iinc 3 1, 3) := by decide +kernel
theorem dX7_shelves_48 : decode cX7_shelves 48 = .ok (.goto (-27), 3) := by decide +kernel
theorem dX7_shelves_51 : decode cX7_shelves 51 = .ok (.iload_n 1, 1) := by decide +kernel
theorem dX7_shelves_52 : decode cX7_shelves 52 = .ok (.ireturn, 1) := by decide +kernel
theorem dX7_jarsLike_0 : decode cX7_jarsLike 0 = .ok (.iconst 0, 1) := by decide +kernel
theorem dX7_jarsLike_1 : decode cX7_jarsLike 1 = .ok (.istore_n 2, 1) := by decide +kernel
theorem dX7_jarsLike_2 : decode cX7_jarsLike 2 = .ok (.iconst 0, 1) := by decide +kernel
theorem dX7_jarsLike_3 : decode cX7_jarsLike 3 = .ok (.istore_n 3, 1) := by decide +kernel
theorem dX7_jarsLike_4 : decode cX7_jarsLike 4 = .ok (.iload_n 3, 1) := by decide +kernel
theorem dX7_jarsLike_5 : decode cX7_jarsLike 5 = .ok (.aload_n 0, 1) := by decide +kernel
theorem dX7_jarsLike_6 : decode cX7_jarsLike 6 = .ok (.getfield 28, 3) := by decide +kernel
theorem dX7_jarsLike_9 : decode cX7_jarsLike 9 = .ok (.getfield 133, 3) := by decide +kernel
theorem dX7_jarsLike_12 : decode cX7_jarsLike 12 = .ok (.if_icmp .ge 32, 3) := by decide +kernel
theorem dX7_jarsLike_15 : decode cX7_jarsLike 15 = .ok (.aload_n 0, 1) := by decide +kernel
theorem dX7_jarsLike_16 : decode cX7_jarsLike 16 = .ok (.getfield 21, 3) := by decide +kernel
theorem dX7_jarsLike_19 : decode cX7_jarsLike 19 = .ok (.aload_n 0, 1) := by decide +kernel
theorem dX7_jarsLike_20 : decode cX7_jarsLike 20 = .ok (.getfield 28, 3) := by decide +kernel
theorem dX7_jarsLike_23 : decode cX7_jarsLike 23 = .ok (.getfield 143, 3) := by decide +kernel
theorem dX7_jarsLike_26 : decode cX7_jarsLike 26 = .ok (.iload_n 3, 1) := by decide +kernel
theorem dX7_jarsLike_27 : decode cX7_jarsLike 27 = .ok (.iaload, 1) := by decide +kernel
theorem dX7_jarsLike_28 : decode cX7_jarsLike 28 = .ok (.invokevirtual 231, 3) := by decide +kernel
theorem dX7_jarsLike_31 : decode cX7_jarsLike 31 = .ok (.iload_n 1, 1) := by decide +kernel
theorem dX7_jarsLike_32 : decode cX7_jarsLike 32 = .ok (.if_icmp .ne 6, 3) := by decide +kernel
theorem dX7_jarsLike_35 : decode cX7_jarsLike 35 = .ok (.iinc 2 1, 3) := by decide +kernel
theorem dX7_jarsLike_38 : decode cX7_jarsLike 38 = .ok (.iinc 3 1, 3) := by decide +kernel
theorem dX7_jarsLike_41 : decode cX7_jarsLike 41 = .ok (.goto (-37), 3) := by decide +kernel
theorem dX7_jarsLike_44 : decode cX7_jarsLike 44 = .ok (.iload_n 2, 1) := by decide +kernel
theorem dX7_jarsLike_45 : decode cX7_jarsLike 45 = .ok (.ireturn, 1) := by decide +kernel
theorem dX7_lowestJarLike_0 : decode cX7_lowestJarLike 0 = .ok (.aload_n 0, 1) := by decide +kernel
theorem dX7_lowestJarLike_1 : decode cX7_lowestJarLike 1 = .ok (.getfield 21, 3) := by decide +kernel
theorem dX7_lowestJarLike_4 : decode cX7_lowestJarLike 4 = .ok (.iload_n 1, 1) := by decide +kernel
theorem dX7_lowestJarLike_5 : decode cX7_lowestJarLike 5 = .ok (.aload_n 0, 1) := by decide +kernel
theorem dX7_lowestJarLike_6 : decode cX7_lowestJarLike 6 = .ok (.getfield 28, 3) := by decide +kernel
theorem dX7_lowestJarLike_9 : decode cX7_lowestJarLike 9 = .ok (.invokevirtual 255, 3) := by decide +kernel
theorem dX7_lowestJarLike_12 : decode cX7_lowestJarLike 12 = .ok (.istore_n 2, 1) := by decide +kernel
theorem dX7_lowestJarLike_13 : decode cX7_lowestJarLike 13 = .ok (.iload_n 2, 1) := by decide +kernel
theorem dX7_lowestJarLike_14 : decode cX7_lowestJarLike 14 = .ok (.ifCond .ge 8, 3) := by decide +kernel
theorem dX7_lowestJarLike_17 : decode cX7_lowestJarLike 17 = .ok (.bipush (-5), 2) := by decide +kernel
theorem dX7_lowestJarLike_19 : decode cX7_lowestJarLike 19 = .ok (.goto 12, 3) := by decide +kernel
theorem dX7_lowestJarLike_22 : decode cX7_lowestJarLike 22 = .ok (.aload_n 0, 1) := by decide +kernel
theorem dX7_lowestJarLike_23 : decode cX7_lowestJarLike 23 = .ok (.getfield 28, 3) := by decide +kernel
theorem dX7_lowestJarLike_26 : decode cX7_lowestJarLike 26 = .ok (.getfield 162, 3) := by decide +kernel
theorem dX7_lowestJarLike_29 : decode cX7_lowestJarLike 29 = .ok (.iload_n 2, 1) := by decide +kernel
theorem dX7_lowestJarLike_30 : decode cX7_lowestJarLike 30 = .ok (.iaload, 1) := by decide +kernel
theorem dX7_lowestJarLike_31 : decode cX7_lowestJarLike 31 = .ok (.ireturn, 1) := by decide +kernel
theorem dX7_cheapestJarLike_0 : decode cX7_cheapestJarLike 0 = .ok (.bipush (-5), 2) := by decide +kernel
theorem dX7_cheapestJarLike_2 : decode cX7_cheapestJarLike 2 = .ok (.istore_n 2, 1) := by decide +kernel
theorem dX7_cheapestJarLike_3 : decode cX7_cheapestJarLike 3 = .ok (.iconst 0, 1) := by decide +kernel
theorem dX7_cheapestJarLike_4 : decode cX7_cheapestJarLike 4 = .ok (.istore_n 3, 1) := by decide +kernel
theorem dX7_cheapestJarLike_5 : decode cX7_cheapestJarLike 5 = .ok (.iconst 0, 1) := by decide +kernel
theorem dX7_cheapestJarLike_6 : decode cX7_cheapestJarLike 6 = .ok (.istore 4, 2) := by decide +kernel
theorem dX7_cheapestJarLike_8 : decode cX7_cheapestJarLike 8 = .ok (.iload 4, 2) := by decide +kernel
theorem dX7_cheapestJarLike_10 : decode cX7_cheapestJarLike 10 = .ok (.aload_n 0, 1) := by decide +kernel
theorem dX7_cheapestJarLike_11 : decode cX7_cheapestJarLike 11 = .ok (.getfield 28, 3) := by decide +kernel
theorem dX7_cheapestJarLike_14 : decode cX7_cheapestJarLike 14 = .ok (.getfield 133, 3) := by decide +kernel
theorem dX7_cheapestJarLike_17 : decode cX7_cheapestJarLike 17 = .ok (.if_icmp .ge 90, 3) := by decide +kernel
theorem dX7_cheapestJarLike_20 : decode cX7_cheapestJarLike 20 = .ok (.aload_n 0, 1) := by decide +kernel
theorem dX7_cheapestJarLike_21 : decode cX7_cheapestJarLike 21 = .ok (.getfield 28, 3) := by decide +kernel
theorem dX7_cheapestJarLike_24 : decode cX7_cheapestJarLike 24 = .ok (.getfield 143, 3) := by decide +kernel
theorem dX7_cheapestJarLike_27 : decode cX7_cheapestJarLike 27 = .ok (.iload 4, 2) := by decide +kernel
theorem dX7_cheapestJarLike_29 : decode cX7_cheapestJarLike 29 = .ok (.iaload, 1) := by decide +kernel
theorem dX7_cheapestJarLike_30 : decode cX7_cheapestJarLike 30 = .ok (.aload_n 0, 1) := by decide +kernel
theorem dX7_cheapestJarLike_31 : decode cX7_cheapestJarLike 31 = .ok (.getfield 28, 3) := by decide +kernel
theorem dX7_cheapestJarLike_34 : decode cX7_cheapestJarLike 34 = .ok (.getfield 149, 3) := by decide +kernel
theorem dX7_cheapestJarLike_37 : decode cX7_cheapestJarLike 37 = .ok (.invokestatic 152, 3) := by decide +kernel
theorem dX7_cheapestJarLike_40 : decode cX7_cheapestJarLike 40 = .ok (.istore 5, 2) := by decide +kernel
theorem dX7_cheapestJarLike_42 : decode cX7_cheapestJarLike 42 = .ok (.iload_n 2, 1) := by decide +kernel
theorem dX7_cheapestJarLike_43 : decode cX7_cheapestJarLike 43 = .ok (.bipush (-5), 2) := by decide +kernel
theorem dX7_cheapestJarLike_45 : decode cX7_cheapestJarLike 45 = .ok (.if_icmp .eq 9, 3) := by decide +kernel
theorem dX7_cheapestJarLike_48 : decode cX7_cheapestJarLike 48 = .ok (.iload 5, 2) := by decide +kernel
theorem dX7_cheapestJarLike_50 : decode cX7_cheapestJarLike 50 = .ok (.iload_n 3, 1) := by decide +kernel
theorem dX7_cheapestJarLike_51 : decode cX7_cheapestJarLike 51 = .ok (.if_icmp .ge 7, 3) := by decide +kernel
theorem dX7_cheapestJarLike_54 : decode cX7_cheapestJarLike 54 = .ok (.iconst 1, 1) := by decide +kernel
theorem dX7_cheapestJarLike_55 : decode cX7_cheapestJarLike 55 = .ok (.goto 4, 3) := by decide +kernel
theorem dX7_cheapestJarLike_58 : decode cX7_cheapestJarLike 58 = .ok (.iconst 0, 1) := by decide +kernel
theorem dX7_cheapestJarLike_59 : decode cX7_cheapestJarLike 59 = .ok (.istore 6, 2) := by decide +kernel
theorem dX7_cheapestJarLike_61 : decode cX7_cheapestJarLike 61 = .ok (.iload 6, 2) := by decide +kernel
theorem dX7_cheapestJarLike_63 : decode cX7_cheapestJarLike 63 = .ok (.ifCond .eq 38, 3) := by decide +kernel
theorem dX7_cheapestJarLike_66 : decode cX7_cheapestJarLike 66 = .ok (.aload_n 0, 1) := by decide +kernel
theorem dX7_cheapestJarLike_67 : decode cX7_cheapestJarLike 67 = .ok (.getfield 21, 3) := by decide +kernel
theorem dX7_cheapestJarLike_70 : decode cX7_cheapestJarLike 70 = .ok (.aload_n 0, 1) := by decide +kernel
theorem dX7_cheapestJarLike_71 : decode cX7_cheapestJarLike 71 = .ok (.getfield 28, 3) := by decide +kernel
theorem dX7_cheapestJarLike_74 : decode cX7_cheapestJarLike 74 = .ok (.getfield 143, 3) := by decide +kernel
theorem dX7_cheapestJarLike_77 : decode cX7_cheapestJarLike 77 = .ok (.iload 4, 2) := by decide +kernel
theorem dX7_cheapestJarLike_79 : decode cX7_cheapestJarLike 79 = .ok (.iaload, 1) := by decide +kernel
theorem dX7_cheapestJarLike_80 : decode cX7_cheapestJarLike 80 = .ok (.invokevirtual 231, 3) := by decide +kernel
theorem dX7_cheapestJarLike_83 : decode cX7_cheapestJarLike 83 = .ok (.iload_n 1, 1) := by decide +kernel
theorem dX7_cheapestJarLike_84 : decode cX7_cheapestJarLike 84 = .ok (.if_icmp .ne 17, 3) := by decide +kernel
theorem dX7_cheapestJarLike_87 : decode cX7_cheapestJarLike 87 = .ok (.aload_n 0, 1) := by decide +kernel
theorem dX7_cheapestJarLike_88 : decode cX7_cheapestJarLike 88 = .ok (.getfield 28, 3) := by decide +kernel
theorem dX7_cheapestJarLike_91 : decode cX7_cheapestJarLike 91 = .ok (.getfield 162, 3) := by decide +kernel
theorem dX7_cheapestJarLike_94 : decode cX7_cheapestJarLike 94 = .ok (.iload 4, 2) := by decide +kernel
theorem dX7_cheapestJarLike_96 : decode cX7_cheapestJarLike 96 = .ok (.iaload, 1) := by decide +kernel
theorem dX7_cheapestJarLike_97 : decode cX7_cheapestJarLike 97 = .ok (.istore_n 2, 1) := by decide +kernel
theorem dX7_cheapestJarLike_98 : decode cX7_cheapestJarLike 98 = .ok (.iload 5, 2) := by decide +kernel
theorem dX7_cheapestJarLike_100 : decode cX7_cheapestJarLike 100 = .ok (.istore_n 3, 1) := by decide +kernel
theorem dX7_cheapestJarLike_101 : decode cX7_cheapestJarLike 101 = .ok (.iinc 4 1, 3) := by decide +kernel
theorem dX7_cheapestJarLike_104 : decode cX7_cheapestJarLike 104 = .ok (.goto (-96), 3) := by decide +kernel
theorem dX7_cheapestJarLike_107 : decode cX7_cheapestJarLike 107 = .ok (.iload_n 2, 1) := by decide +kernel
theorem dX7_cheapestJarLike_108 : decode cX7_cheapestJarLike 108 = .ok (.ireturn, 1) := by decide +kernel
theorem dX7_tasteOfShelf_0 : decode cX7_tasteOfShelf 0 = .ok (.iload_n 1, 1) := by decide +kernel
theorem dX7_tasteOfShelf_1 : decode cX7_tasteOfShelf 1 = .ok (.aload_n 0, 1) := by decide +kernel
theorem dX7_tasteOfShelf_2 : decode cX7_tasteOfShelf 2 = .ok (.getfield 28, 3) := by decide +kernel
theorem dX7_tasteOfShelf_5 : decode cX7_tasteOfShelf 5 = .ok (.getfield 133, 3) := by decide +kernel
theorem dX7_tasteOfShelf_8 : decode cX7_tasteOfShelf 8 = .ok (.if_icmp .lt 6, 3) := by decide +kernel
theorem dX7_tasteOfShelf_11 : decode cX7_tasteOfShelf 11 = .ok (.bipush (-5), 2) := by decide +kernel
theorem dX7_tasteOfShelf_13 : decode cX7_tasteOfShelf 13 = .ok (.ireturn, 1) := by decide +kernel
theorem dX7_tasteOfShelf_14 : decode cX7_tasteOfShelf 14 = .ok (.aload_n 0, 1) := by decide +kernel
theorem dX7_tasteOfShelf_15 : decode cX7_tasteOfShelf 15 = .ok (.iconst (-1), 1) := by decide +kernel
theorem dX7_tasteOfShelf_16 : decode cX7_tasteOfShelf 16 = .ok (.invokevirtual 252, 3) := by decide +kernel
theorem dX7_tasteOfShelf_19 : decode cX7_tasteOfShelf 19 = .ok (.istore_n 2, 1) := by decide +kernel
theorem dX7_tasteOfShelf_20 : decode cX7_tasteOfShelf 20 = .ok (.iconst 0, 1) := by decide +kernel
theorem dX7_tasteOfShelf_21 : decode cX7_tasteOfShelf 21 = .ok (.istore_n 3, 1) := by decide +kernel
theorem dX7_tasteOfShelf_22 : decode cX7_tasteOfShelf 22 = .ok (.iload_n 3, 1) := by decide +kernel
theorem dX7_tasteOfShelf_23 : decode cX7_tasteOfShelf 23 = .ok (.iload_n 1, 1) := by decide +kernel
theorem dX7_tasteOfShelf_24 : decode cX7_tasteOfShelf 24 = .ok (.if_icmp .ge 19, 3) := by decide +kernel
theorem dX7_tasteOfShelf_27 : decode cX7_tasteOfShelf 27 = .ok (.iload_n 2, 1) := by decide +kernel
theorem dX7_tasteOfShelf_28 : decode cX7_tasteOfShelf 28 = .ok (.ifCond .lt 15, 3) := by decide +kernel
theorem dX7_tasteOfShelf_31 : decode cX7_tasteOfShelf 31 = .ok (.aload_n 0, 1) := by decide +kernel
theorem dX7_tasteOfShelf_32 : decode cX7_tasteOfShelf 32 = .ok (.iload_n 2, 1) := by decide +kernel
theorem dX7_tasteOfShelf_33 : decode cX7_tasteOfShelf 33 = .ok (.invokevirtual 252, 3) := by decide +kernel
theorem dX7_tasteOfShelf_36 : decode cX7_tasteOfShelf 36 = .ok (.istore_n 2, 1) := by decide +kernel
theorem dX7_tasteOfShelf_37 : decode cX7_tasteOfShelf 37 = .ok (.iinc 3 1, 3) := by decide +kernel
theorem dX7_tasteOfShelf_40 : decode cX7_tasteOfShelf 40 = .ok (.goto (-18), 3) := by decide +kernel
theorem dX7_tasteOfShelf_43 : decode cX7_tasteOfShelf 43 = .ok (.iload_n 2, 1) := by decide +kernel
theorem dX7_tasteOfShelf_44 : decode cX7_tasteOfShelf 44 = .ok (.ireturn, 1) := by decide +kernel
theorem dX7_nextShelf_0 : decode cX7_nextShelf 0 = .ok (.bipush (-5), 2) := by decide +kernel
theorem dX7_nextShelf_2 : decode cX7_nextShelf 2 = .ok (.istore_n 2, 1) := by decide +kernel
theorem dX7_nextShelf_3 : decode cX7_nextShelf 3 = .ok (.iconst 0, 1) := by decide +kernel
theorem dX7_nextShelf_4 : decode cX7_nextShelf 4 = .ok (.istore_n 3, 1) := by decide +kernel
theorem dX7_nextShelf_5 : decode cX7_nextShelf 5 = .ok (.iload_n 3, 1) := by decide +kernel
theorem dX7_nextShelf_6 : decode cX7_nextShelf 6 = .ok (.aload_n 0, 1) := by decide +kernel
theorem dX7_nextShelf_7 : decode cX7_nextShelf 7 = .ok (.getfield 28, 3) := by decide +kernel
theorem dX7_nextShelf_10 : decode cX7_nextShelf 10 = .ok (.getfield 133, 3) := by decide +kernel
theorem dX7_nextShelf_13 : decode cX7_nextShelf 13 = .ok (.if_icmp .ge 48, 3) := by decide +kernel
theorem dX7_nextShelf_16 : decode cX7_nextShelf 16 = .ok (.aload_n 0, 1) := by decide +kernel
theorem dX7_nextShelf_17 : decode cX7_nextShelf 17 = .ok (.getfield 21, 3) := by decide +kernel
theorem dX7_nextShelf_20 : decode cX7_nextShelf 20 = .ok (.aload_n 0, 1) := by decide +kernel
theorem dX7_nextShelf_21 : decode cX7_nextShelf 21 = .ok (.getfield 28, 3) := by decide +kernel
theorem dX7_nextShelf_24 : decode cX7_nextShelf 24 = .ok (.getfield 143, 3) := by decide +kernel
theorem dX7_nextShelf_27 : decode cX7_nextShelf 27 = .ok (.iload_n 3, 1) := by decide +kernel
theorem dX7_nextShelf_28 : decode cX7_nextShelf 28 = .ok (.iaload, 1) := by decide +kernel
theorem dX7_nextShelf_29 : decode cX7_nextShelf 29 = .ok (.invokevirtual 231, 3) := by decide +kernel
theorem dX7_nextShelf_32 : decode cX7_nextShelf 32 = .ok (.istore 4, 2) := by decide +kernel
theorem dX7_nextShelf_34 : decode cX7_nextShelf 34 = .ok (.iload 4, 2) := by decide +kernel
theorem dX7_nextShelf_36 : decode cX7_nextShelf 36 = .ok (.iload_n 1, 1) := by decide +kernel
theorem dX7_nextShelf_37 : decode cX7_nextShelf 37 = .ok (.if_icmp .le 18, 3) := by decide +kernel
theorem dX7_nextShelf_40 : decode cX7_nextShelf 40 = .ok (.iload_n 2, 1) := by decide +kernel
theorem dX7_nextShelf_41 : decode cX7_nextShelf 41 = .ok (.bipush (-5), 2) := by decide +kernel
theorem dX7_nextShelf_43 : decode cX7_nextShelf 43 = .ok (.if_icmp .eq 9, 3) := by decide +kernel
theorem dX7_nextShelf_46 : decode cX7_nextShelf 46 = .ok (.iload 4, 2) := by decide +kernel
theorem dX7_nextShelf_48 : decode cX7_nextShelf 48 = .ok (.iload_n 2, 1) := by decide +kernel
theorem dX7_nextShelf_49 : decode cX7_nextShelf 49 = .ok (.if_icmp .ge 6, 3) := by decide +kernel
theorem dX7_nextShelf_52 : decode cX7_nextShelf 52 = .ok (.iload 4, 2) := by decide +kernel
theorem dX7_nextShelf_54 : decode cX7_nextShelf 54 = .ok (.istore_n 2, 1) := by decide +kernel
theorem dX7_nextShelf_55 : decode cX7_nextShelf 55 = .ok (.iinc 3 1, 3) := by decide +kernel
theorem dX7_nextShelf_58 : decode cX7_nextShelf 58 = .ok (.goto (-53), 3) := by decide +kernel
theorem dX7_nextShelf_61 : decode cX7_nextShelf 61 = .ok (.iload_n 2, 1) := by decide +kernel
theorem dX7_nextShelf_62 : decode cX7_nextShelf 62 = .ok (.ireturn, 1) := by decide +kernel
theorem dX7_unitsInJars_0 : decode cX7_unitsInJars 0 = .ok (.iconst 0, 1) := by decide +kernel
theorem dX7_unitsInJars_1 : decode cX7_unitsInJars 1 = .ok (.istore_n 1, 1) := by decide +kernel
theorem dX7_unitsInJars_2 : decode cX7_unitsInJars 2 = .ok (.iconst 0, 1) := by decide +kernel
theorem dX7_unitsInJars_3 : decode cX7_unitsInJars 3 = .ok (.istore_n 2, 1) := by decide +kernel
theorem dX7_unitsInJars_4 : decode cX7_unitsInJars 4 = .ok (.iload_n 2, 1) := by decide +kernel
theorem dX7_unitsInJars_5 : decode cX7_unitsInJars 5 = .ok (.aload_n 0, 1) := by decide +kernel
theorem dX7_unitsInJars_6 : decode cX7_unitsInJars 6 = .ok (.getfield 28, 3) := by decide +kernel
theorem dX7_unitsInJars_9 : decode cX7_unitsInJars 9 = .ok (.getfield 133, 3) := by decide +kernel
theorem dX7_unitsInJars_12 : decode cX7_unitsInJars 12 = .ok (.if_icmp .ge 24, 3) := by decide +kernel
theorem dX7_unitsInJars_15 : decode cX7_unitsInJars 15 = .ok (.iload_n 1, 1) := by decide +kernel
theorem dX7_unitsInJars_16 : decode cX7_unitsInJars 16 = .ok (.aload_n 0, 1) := by decide +kernel
theorem dX7_unitsInJars_17 : decode cX7_unitsInJars 17 = .ok (.getfield 28, 3) := by decide +kernel
theorem dX7_unitsInJars_20 : decode cX7_unitsInJars 20 = .ok (.getfield 143, 3) := by decide +kernel
theorem dX7_unitsInJars_23 : decode cX7_unitsInJars 23 = .ok (.iload_n 2, 1) := by decide +kernel
theorem dX7_unitsInJars_24 : decode cX7_unitsInJars 24 = .ok (.iaload, 1) := by decide +kernel
theorem dX7_unitsInJars_25 : decode cX7_unitsInJars 25 = .ok (.invokestatic 146, 3) := by decide +kernel
theorem dX7_unitsInJars_28 : decode cX7_unitsInJars 28 = .ok (.iadd, 1) := by decide +kernel
theorem dX7_unitsInJars_29 : decode cX7_unitsInJars 29 = .ok (.istore_n 1, 1) := by decide +kernel
theorem dX7_unitsInJars_30 : decode cX7_unitsInJars 30 = .ok (.iinc 2 1, 3) := by decide +kernel
theorem dX7_unitsInJars_33 : decode cX7_unitsInJars 33 = .ok (.goto (-29), 3) := by decide +kernel
theorem dX7_unitsInJars_36 : decode cX7_unitsInJars 36 = .ok (.iload_n 1, 1) := by decide +kernel
theorem dX7_unitsInJars_37 : decode cX7_unitsInJars 37 = .ok (.ireturn, 1) := by decide +kernel
theorem dX7_isMix_0 : decode cX7_isMix 0 = .ok (.iload_n 0, 1) := by decide +kernel
theorem dX7_isMix_1 : decode cX7_isMix 1 = .ok (.ifCond .lt 14, 3) := by decide +kernel
theorem dX7_isMix_4 : decode cX7_isMix 4 = .ok (.iload_n 0, 1) := by decide +kernel
theorem dX7_isMix_5 : decode cX7_isMix 5 = .ok (.sipush 6561, 3) := by decide +kernel
theorem dX7_isMix_8 : decode cX7_isMix 8 = .ok (.if_icmp .ge 7, 3) := by decide +kernel
theorem dX7_isMix_11 : decode cX7_isMix 11 = .ok (.iconst 1, 1) := by decide +kernel
theorem dX7_isMix_12 : decode cX7_isMix 12 = .ok (.goto 4, 3) := by decide +kernel
theorem dX7_isMix_15 : decode cX7_isMix 15 = .ok (.iconst 0, 1) := by decide +kernel
theorem dX7_isMix_16 : decode cX7_isMix 16 = .ok (.ireturn, 1) := by decide +kernel
theorem dX7_unitsOf_0 : decode cX7_unitsOf 0 = .ok (.iconst 0, 1) := by decide +kernel
theorem dX7_unitsOf_1 : decode cX7_unitsOf 1 = .ok (.istore_n 1, 1) := by decide +kernel
theorem dX7_unitsOf_2 : decode cX7_unitsOf 2 = .ok (.iconst 0, 1) := by decide +kernel
theorem dX7_unitsOf_3 : decode cX7_unitsOf 3 = .ok (.istore_n 2, 1) := by decide +kernel
theorem dX7_unitsOf_4 : decode cX7_unitsOf 4 = .ok (.iload_n 2, 1) := by decide +kernel
theorem dX7_unitsOf_5 : decode cX7_unitsOf 5 = .ok (.bipush 8, 2) := by decide +kernel
theorem dX7_unitsOf_7 : decode cX7_unitsOf 7 = .ok (.if_icmp .ge 21, 3) := by decide +kernel
theorem dX7_unitsOf_10 : decode cX7_unitsOf 10 = .ok (.iload_n 1, 1) := by decide +kernel
theorem dX7_unitsOf_11 : decode cX7_unitsOf 11 = .ok (.iload_n 0, 1) := by decide +kernel
theorem dX7_unitsOf_12 : decode cX7_unitsOf 12 = .ok (.getstatic 206, 3) := by decide +kernel
theorem dX7_unitsOf_15 : decode cX7_unitsOf 15 = .ok (.iload_n 2, 1) := by decide +kernel
theorem dX7_unitsOf_16 : decode cX7_unitsOf 16 = .ok (.iaload, 1) := by decide +kernel
theorem dX7_unitsOf_17 : decode cX7_unitsOf 17 = .ok (.idiv, 1) := by decide +kernel
theorem dX7_unitsOf_18 : decode cX7_unitsOf 18 = .ok (.iconst 3, 1) := by decide +kernel
theorem dX7_unitsOf_19 : decode cX7_unitsOf 19 = .ok (.irem, 1) := by decide +kernel
theorem dX7_unitsOf_20 : decode cX7_unitsOf 20 = .ok (.iadd, 1) := by decide +kernel
theorem dX7_unitsOf_21 : decode cX7_unitsOf 21 = .ok (.istore_n 1, 1) := by decide +kernel
theorem dX7_unitsOf_22 : decode cX7_unitsOf 22 = .ok (.iinc 2 1, 3) := by decide +kernel
theorem dX7_unitsOf_25 : decode cX7_unitsOf 25 = .ok (.goto (-21), 3) := by decide +kernel
theorem dX7_unitsOf_28 : decode cX7_unitsOf 28 = .ok (.iload_n 1, 1) := by decide +kernel
theorem dX7_unitsOf_29 : decode cX7_unitsOf 29 = .ok (.ireturn, 1) := by decide +kernel
theorem dX7_costOf_0 : decode cX7_costOf 0 = .ok (.iconst 0, 1) := by decide +kernel
theorem dX7_costOf_1 : decode cX7_costOf 1 = .ok (.istore_n 2, 1) := by decide +kernel
theorem dX7_costOf_2 : decode cX7_costOf 2 = .ok (.iconst 0, 1) := by decide +kernel
theorem dX7_costOf_3 : decode cX7_costOf 3 = .ok (.istore_n 3, 1) := by decide +kernel
theorem dX7_costOf_4 : decode cX7_costOf 4 = .ok (.iload_n 3, 1) := by decide +kernel
theorem dX7_costOf_5 : decode cX7_costOf 5 = .ok (.bipush 8, 2) := by decide +kernel
theorem dX7_costOf_7 : decode cX7_costOf 7 = .ok (.if_icmp .ge 25, 3) := by decide +kernel
theorem dX7_costOf_10 : decode cX7_costOf 10 = .ok (.iload_n 2, 1) := by decide +kernel
theorem dX7_costOf_11 : decode cX7_costOf 11 = .ok (.iload_n 0, 1) := by decide +kernel
theorem dX7_costOf_12 : decode cX7_costOf 12 = .ok (.getstatic 206, 3) := by decide +kernel
theorem dX7_costOf_15 : decode cX7_costOf 15 = .ok (.iload_n 3, 1) := by decide +kernel
theorem dX7_costOf_16 : decode cX7_costOf 16 = .ok (.iaload, 1) := by decide +kernel
theorem dX7_costOf_17 : decode cX7_costOf 17 = .ok (.idiv, 1) := by decide +kernel
theorem dX7_costOf_18 : decode cX7_costOf 18 = .ok (.iconst 3, 1) := by decide +kernel
theorem dX7_costOf_19 : decode cX7_costOf 19 = .ok (.irem, 1) := by decide +kernel
theorem dX7_costOf_20 : decode cX7_costOf 20 = .ok (.aload_n 1, 1) := by decide +kernel
theorem dX7_costOf_21 : decode cX7_costOf 21 = .ok (.iload_n 3, 1) := by decide +kernel
theorem dX7_costOf_22 : decode cX7_costOf 22 = .ok (.iaload, 1) := by decide +kernel
theorem dX7_costOf_23 : decode cX7_costOf 23 = .ok (.imul, 1) := by decide +kernel
theorem dX7_costOf_24 : decode cX7_costOf 24 = .ok (.iadd, 1) := by decide +kernel
theorem dX7_costOf_25 : decode cX7_costOf 25 = .ok (.istore_n 2, 1) := by decide +kernel
theorem dX7_costOf_26 : decode cX7_costOf 26 = .ok (.iinc 3 1, 3) := by decide +kernel
theorem dX7_costOf_29 : decode cX7_costOf 29 = .ok (.goto (-25), 3) := by decide +kernel
theorem dX7_costOf_32 : decode cX7_costOf 32 = .ok (.iload_n 2, 1) := by decide +kernel
theorem dX7_costOf_33 : decode cX7_costOf 33 = .ok (.ireturn, 1) := by decide +kernel
theorem dJ6_bitCount_0f7a4_0 : decode cJ6_bitCount_0f7a4 0 = .ok (.iload_n 0, 1) := by decide +kernel
theorem dJ6_bitCount_0f7a4_1 : decode cJ6_bitCount_0f7a4 1 = .ok (.iload_n 0, 1) := by decide +kernel
theorem dJ6_bitCount_0f7a4_2 : decode cJ6_bitCount_0f7a4 2 = .ok (.iconst 1, 1) := by decide +kernel
theorem dJ6_bitCount_0f7a4_3 : decode cJ6_bitCount_0f7a4 3 = .ok (.iushr, 1) := by decide +kernel
theorem dJ6_bitCount_0f7a4_4 : decode cJ6_bitCount_0f7a4 4 = .ok (.ldc_w 265, 3) := by decide +kernel
theorem dJ6_bitCount_0f7a4_7 : decode cJ6_bitCount_0f7a4 7 = .ok (.iand, 1) := by decide +kernel
theorem dJ6_bitCount_0f7a4_8 : decode cJ6_bitCount_0f7a4 8 = .ok (.isub, 1) := by decide +kernel
theorem dJ6_bitCount_0f7a4_9 : decode cJ6_bitCount_0f7a4 9 = .ok (.istore_n 0, 1) := by decide +kernel
theorem dJ6_bitCount_0f7a4_10 : decode cJ6_bitCount_0f7a4 10 = .ok (.iload_n 0, 1) := by decide +kernel
theorem dJ6_bitCount_0f7a4_11 : decode cJ6_bitCount_0f7a4 11 = .ok (.ldc_w 266, 3) := by decide +kernel
theorem dJ6_bitCount_0f7a4_14 : decode cJ6_bitCount_0f7a4 14 = .ok (.iand, 1) := by decide +kernel
theorem dJ6_bitCount_0f7a4_15 : decode cJ6_bitCount_0f7a4 15 = .ok (.iload_n 0, 1) := by decide +kernel
theorem dJ6_bitCount_0f7a4_16 : decode cJ6_bitCount_0f7a4 16 = .ok (.iconst 2, 1) := by decide +kernel
theorem dJ6_bitCount_0f7a4_17 : decode cJ6_bitCount_0f7a4 17 = .ok (.iushr, 1) := by decide +kernel
theorem dJ6_bitCount_0f7a4_18 : decode cJ6_bitCount_0f7a4 18 = .ok (.ldc_w 266, 3) := by decide +kernel
theorem dJ6_bitCount_0f7a4_21 : decode cJ6_bitCount_0f7a4 21 = .ok (.iand, 1) := by decide +kernel
theorem dJ6_bitCount_0f7a4_22 : decode cJ6_bitCount_0f7a4 22 = .ok (.iadd, 1) := by decide +kernel
theorem dJ6_bitCount_0f7a4_23 : decode cJ6_bitCount_0f7a4 23 = .ok (.istore_n 0, 1) := by decide +kernel
theorem dJ6_bitCount_0f7a4_24 : decode cJ6_bitCount_0f7a4 24 = .ok (.iload_n 0, 1) := by decide +kernel
theorem dJ6_bitCount_0f7a4_25 : decode cJ6_bitCount_0f7a4 25 = .ok (.iload_n 0, 1) := by decide +kernel
theorem dJ6_bitCount_0f7a4_26 : decode cJ6_bitCount_0f7a4 26 = .ok (.iconst 4, 1) := by decide +kernel
theorem dJ6_bitCount_0f7a4_27 : decode cJ6_bitCount_0f7a4 27 = .ok (.iushr, 1) := by decide +kernel
theorem dJ6_bitCount_0f7a4_28 : decode cJ6_bitCount_0f7a4 28 = .ok (.iadd, 1) := by decide +kernel
theorem dJ6_bitCount_0f7a4_29 : decode cJ6_bitCount_0f7a4 29 = .ok (.ldc_w 267, 3) := by decide +kernel
theorem dJ6_bitCount_0f7a4_32 : decode cJ6_bitCount_0f7a4 32 = .ok (.iand, 1) := by decide +kernel
theorem dJ6_bitCount_0f7a4_33 : decode cJ6_bitCount_0f7a4 33 = .ok (.istore_n 0, 1) := by decide +kernel
theorem dJ6_bitCount_0f7a4_34 : decode cJ6_bitCount_0f7a4 34 = .ok (.iload_n 0, 1) := by decide +kernel
theorem dJ6_bitCount_0f7a4_35 : decode cJ6_bitCount_0f7a4 35 = .ok (.iload_n 0, 1) := by decide +kernel
theorem dJ6_bitCount_0f7a4_36 : decode cJ6_bitCount_0f7a4 36 = .ok (.bipush 8, 2) := by decide +kernel
theorem dJ6_bitCount_0f7a4_38 : decode cJ6_bitCount_0f7a4 38 = .ok (.iushr, 1) := by decide +kernel
theorem dJ6_bitCount_0f7a4_39 : decode cJ6_bitCount_0f7a4 39 = .ok (.iadd, 1) := by decide +kernel
theorem dJ6_bitCount_0f7a4_40 : decode cJ6_bitCount_0f7a4 40 = .ok (.istore_n 0, 1) := by decide +kernel
theorem dJ6_bitCount_0f7a4_41 : decode cJ6_bitCount_0f7a4 41 = .ok (.iload_n 0, 1) := by decide +kernel
theorem dJ6_bitCount_0f7a4_42 : decode cJ6_bitCount_0f7a4 42 = .ok (.iload_n 0, 1) := by decide +kernel
theorem dJ6_bitCount_0f7a4_43 : decode cJ6_bitCount_0f7a4 43 = .ok (.bipush 16, 2) := by decide +kernel
theorem dJ6_bitCount_0f7a4_45 : decode cJ6_bitCount_0f7a4 45 = .ok (.iushr, 1) := by decide +kernel
theorem dJ6_bitCount_0f7a4_46 : decode cJ6_bitCount_0f7a4 46 = .ok (.iadd, 1) := by decide +kernel
theorem dJ6_bitCount_0f7a4_47 : decode cJ6_bitCount_0f7a4 47 = .ok (.istore_n 0, 1) := by decide +kernel
theorem dJ6_bitCount_0f7a4_48 : decode cJ6_bitCount_0f7a4 48 = .ok (.iload_n 0, 1) := by decide +kernel
theorem dJ6_bitCount_0f7a4_49 : decode cJ6_bitCount_0f7a4 49 = .ok (.bipush 63, 2) := by decide +kernel
theorem dJ6_bitCount_0f7a4_51 : decode cJ6_bitCount_0f7a4 51 = .ok (.iand, 1) := by decide +kernel
theorem dJ6_bitCount_0f7a4_52 : decode cJ6_bitCount_0f7a4 52 = .ok (.ireturn, 1) := by decide +kernel
theorem dJ9_min_7cf53_0 : decode cJ9_min_7cf53 0 = .ok (.iload_n 0, 1) := by decide +kernel
theorem dJ9_min_7cf53_1 : decode cJ9_min_7cf53 1 = .ok (.iload_n 1, 1) := by decide +kernel
theorem dJ9_min_7cf53_2 : decode cJ9_min_7cf53 2 = .ok (.if_icmp .gt 7, 3) := by decide +kernel
theorem dJ9_min_7cf53_5 : decode cJ9_min_7cf53 5 = .ok (.iload_n 0, 1) := by decide +kernel
theorem dJ9_min_7cf53_6 : decode cJ9_min_7cf53 6 = .ok (.goto 4, 3) := by decide +kernel
theorem dJ9_min_7cf53_9 : decode cJ9_min_7cf53 9 = .ok (.iload_n 1, 1) := by decide +kernel
theorem dJ9_min_7cf53_10 : decode cJ9_min_7cf53 10 = .ok (.ireturn, 1) := by decide +kernel
theorem dJ0_length_8abf5_0 : decode cJ0_length_8abf5 0 = .ok (.aload_n 0, 1) := by decide +kernel
theorem dJ0_length_8abf5_1 : decode cJ0_length_8abf5 1 = .ok (.getfield 9, 3) := by decide +kernel
theorem dJ0_length_8abf5_4 : decode cJ0_length_8abf5 4 = .ok (.arraylength, 1) := by decide +kernel
theorem dJ0_length_8abf5_5 : decode cJ0_length_8abf5 5 = .ok (.aload_n 0, 1) := by decide +kernel
theorem dJ0_length_8abf5_6 : decode cJ0_length_8abf5 6 = .ok (.invokevirtual 335, 3) := by decide +kernel
theorem dJ0_length_8abf5_9 : decode cJ0_length_8abf5 9 = .ok (.ishr, 1) := by decide +kernel
theorem dJ0_length_8abf5_10 : decode cJ0_length_8abf5 10 = .ok (.ireturn, 1) := by decide +kernel
theorem dJ0_charAt_5068e_0 : decode cJ0_charAt_5068e 0 = .ok (.aload_n 0, 1) := by decide +kernel
theorem dJ0_charAt_5068e_1 : decode cJ0_charAt_5068e 1 = .ok (.invokevirtual 492, 3) := by decide +kernel
theorem dJ0_charAt_5068e_4 : decode cJ0_charAt_5068e 4 = .ok (.ifCond .eq 12, 3) := by decide +kernel
theorem dJ0_charAt_5068e_7 : decode cJ0_charAt_5068e 7 = .ok (.aload_n 0, 1) := by decide +kernel
theorem dJ0_charAt_5068e_8 : decode cJ0_charAt_5068e 8 = .ok (.getfield 9, 3) := by decide +kernel
theorem dJ0_charAt_5068e_11 : decode cJ0_charAt_5068e 11 = .ok (.iload_n 1, 1) := by decide +kernel
theorem dJ0_charAt_5068e_12 : decode cJ0_charAt_5068e 12 = .ok (.invokestatic 495, 3) := by decide +kernel
theorem dJ0_charAt_5068e_15 : decode cJ0_charAt_5068e 15 = .ok (.ireturn, 1) := by decide +kernel
theorem dJ0_charAt_5068e_16 : decode cJ0_charAt_5068e 16 = .ok (.aload_n 0, 1) := by decide +kernel
theorem dJ0_charAt_5068e_17 : decode cJ0_charAt_5068e 17 = .ok (.getfield 9, 3) := by decide +kernel
theorem dJ0_charAt_5068e_20 : decode cJ0_charAt_5068e 20 = .ok (.iload_n 1, 1) := by decide +kernel
theorem dJ0_charAt_5068e_21 : decode cJ0_charAt_5068e 21 = .ok (.invokestatic 498, 3) := by decide +kernel
theorem dJ0_charAt_5068e_24 : decode cJ0_charAt_5068e 24 = .ok (.ireturn, 1) := by decide +kernel
theorem dJ0_coder_7d493_0 : decode cJ0_coder_7d493 0 = .ok (.getstatic 38, 3) := by decide +kernel
theorem dJ0_coder_7d493_3 : decode cJ0_coder_7d493 3 = .ok (.ifCond .eq 10, 3) := by decide +kernel
theorem dJ0_coder_7d493_6 : decode cJ0_coder_7d493 6 = .ok (.aload_n 0, 1) := by decide +kernel
theorem dJ0_coder_7d493_7 : decode cJ0_coder_7d493 7 = .ok (.getfield 15, 3) := by decide +kernel
theorem dJ0_coder_7d493_10 : decode cJ0_coder_7d493 10 = .ok (.goto 4, 3) := by decide +kernel
theorem dJ0_coder_7d493_13 : decode cJ0_coder_7d493 13 = .ok (.iconst 1, 1) := by decide +kernel
theorem dJ0_coder_7d493_14 : decode cJ0_coder_7d493 14 = .ok (.ireturn, 1) := by decide +kernel
theorem dJ0_isLatin1_aae02_0 : decode cJ0_isLatin1_aae02 0 = .ok (.getstatic 38, 3) := by decide +kernel
theorem dJ0_isLatin1_aae02_3 : decode cJ0_isLatin1_aae02 3 = .ok (.ifCond .eq 14, 3) := by decide +kernel
theorem dJ0_isLatin1_aae02_6 : decode cJ0_isLatin1_aae02 6 = .ok (.aload_n 0, 1) := by decide +kernel
theorem dJ0_isLatin1_aae02_7 : decode cJ0_isLatin1_aae02 7 = .ok (.getfield 15, 3) := by decide +kernel
theorem dJ0_isLatin1_aae02_10 : decode cJ0_isLatin1_aae02 10 = .ok (.ifCond .ne 7, 3) := by decide +kernel
theorem dJ0_isLatin1_aae02_13 : decode cJ0_isLatin1_aae02 13 = .ok (.iconst 1, 1) := by decide +kernel
theorem dJ0_isLatin1_aae02_14 : decode cJ0_isLatin1_aae02 14 = .ok (.goto 4, 3) := by decide +kernel
theorem dJ0_isLatin1_aae02_17 : decode cJ0_isLatin1_aae02 17 = .ok (.iconst 0, 1) := by decide +kernel
theorem dJ0_isLatin1_aae02_18 : decode cJ0_isLatin1_aae02 18 = .ok (.ireturn, 1) := by decide +kernel
theorem dJ0_checkIndex_df160_0 : decode cJ0_checkIndex_df160 0 = .ok (.iload_n 0, 1) := by decide +kernel
theorem dJ0_checkIndex_df160_1 : decode cJ0_checkIndex_df160 1 = .ok (.iload_n 1, 1) := by decide +kernel
theorem dJ0_checkIndex_df160_2 : decode cJ0_checkIndex_df160 2 = .ok (.getstatic 1053, 3) := by decide +kernel
theorem dJ0_checkIndex_df160_5 : decode cJ0_checkIndex_df160 5 = .ok (.invokestatic 1059, 3) := by decide +kernel
theorem dJ0_checkIndex_df160_8 : decode cJ0_checkIndex_df160 8 = .ok (.pop, 1) := by decide +kernel
theorem dJ0_checkIndex_df160_9 : decode cJ0_checkIndex_df160 9 = .ok (.return_, 1) := by decide +kernel
theorem dJ1_charAt_3b067_0 : decode cJ1_charAt_3b067 0 = .ok (.iload_n 1, 1) := by decide +kernel
theorem dJ1_charAt_3b067_1 : decode cJ1_charAt_3b067 1 = .ok (.aload_n 0, 1) := by decide +kernel
theorem dJ1_charAt_3b067_2 : decode cJ1_charAt_3b067 2 = .ok (.arraylength, 1) := by decide +kernel
theorem dJ1_charAt_3b067_3 : decode cJ1_charAt_3b067 3 = .ok (.invokestatic 9, 3) := by decide +kernel
theorem dJ1_charAt_3b067_6 : decode cJ1_charAt_3b067 6 = .ok (.aload_n 0, 1) := by decide +kernel
theorem dJ1_charAt_3b067_7 : decode cJ1_charAt_3b067 7 = .ok (.iload_n 1, 1) := by decide +kernel
theorem dJ1_charAt_3b067_8 : decode cJ1_charAt_3b067 8 = .ok (.baload, 1) := by decide +kernel
theorem dJ1_charAt_3b067_9 : decode cJ1_charAt_3b067 9 = .ok (.sipush 255, 3) := by decide +kernel
theorem dJ1_charAt_3b067_12 : decode cJ1_charAt_3b067 12 = .ok (.iand, 1) := by decide +kernel
theorem dJ1_charAt_3b067_13 : decode cJ1_charAt_3b067 13 = .ok (.i2c, 1) := by decide +kernel
theorem dJ1_charAt_3b067_14 : decode cJ1_charAt_3b067 14 = .ok (.ireturn, 1) := by decide +kernel
theorem dJ2_getChar_3b067_0 : decode cJ2_getChar_3b067 0 = .ok (.getstatic 44, 3) := by decide +kernel
theorem dJ2_getChar_3b067_3 : decode cJ2_getChar_3b067 3 = .ok (.ifCond .ne 25, 3) := by decide +kernel
theorem dJ2_getChar_3b067_6 : decode cJ2_getChar_3b067 6 = .ok (.iload_n 1, 1) := by decide +kernel
theorem dJ2_getChar_3b067_7 : decode cJ2_getChar_3b067 7 = .ok (.ifCond .lt 11, 3) := by decide +kernel
theorem dJ2_getChar_3b067_10 : decode cJ2_getChar_3b067 10 = .ok (.iload_n 1, 1) := by decide +kernel
theorem dJ2_getChar_3b067_11 : decode cJ2_getChar_3b067 11 = .ok (.aload_n 0, 1) := by decide +kernel
theorem dJ2_getChar_3b067_12 : decode cJ2_getChar_3b067 12 = .ok (.invokestatic 48, 3) := by decide +kernel
theorem dJ2_getChar_3b067_15 : decode cJ2_getChar_3b067 15 = .ok (.if_icmp .lt 13, 3) := by decide +kernel
theorem dJ2_getChar_3b067_18 : decode cJ2_getChar_3b067 18 = .ok (.new 52, 3) := by decide +kernel
theorem dJ2_getChar_3b067_21 : decode cJ2_getChar_3b067 21 = .ok (.dup, 1) := by decide +kernel
theorem dJ2_getChar_3b067_22 : decode cJ2_getChar_3b067 22 = .ok (.ldc 54, 2) := by decide +kernel
theorem dJ2_getChar_3b067_24 : decode cJ2_getChar_3b067 24 = .ok (.invokespecial 56, 3) := by decide +kernel
theorem dJ2_getChar_3b067_27 : decode cJ2_getChar_3b067 27 = .ok (.athrow, 1) := by decide +kernel
theorem dJ2_getChar_3b067_28 : decode cJ2_getChar_3b067 28 = .ok (.iload_n 1, 1) := by decide +kernel
theorem dJ2_getChar_3b067_29 : decode cJ2_getChar_3b067 29 = .ok (.iconst 1, 1) := by decide +kernel
theorem dJ2_getChar_3b067_30 : decode cJ2_getChar_3b067 30 = .ok (.ishl, 1) := by decide +kernel
theorem dJ2_getChar_3b067_31 : decode cJ2_getChar_3b067 31 = .ok (.istore_n 1, 1) := by decide +kernel
theorem dJ2_getChar_3b067_32 : decode cJ2_getChar_3b067 32 = .ok (.aload_n 0, 1) := by decide +kernel
theorem dJ2_getChar_3b067_33 : decode cJ2_getChar_3b067 33 = .ok (.iload_n 1, 1) := by decide +kernel
theorem dJ2_getChar_3b067_34 : decode cJ2_getChar_3b067 34 = .ok (.iinc 1 1, 3) := by decide +kernel
theorem dJ2_getChar_3b067_37 : decode cJ2_getChar_3b067 37 = .ok (.baload, 1) := by decide +kernel
theorem dJ2_getChar_3b067_38 : decode cJ2_getChar_3b067 38 = .ok (.sipush 255, 3) := by decide +kernel
theorem dJ2_getChar_3b067_41 : decode cJ2_getChar_3b067 41 = .ok (.iand, 1) := by decide +kernel
theorem dJ2_getChar_3b067_42 : decode cJ2_getChar_3b067 42 = .ok (.getstatic 59, 3) := by decide +kernel
theorem dJ2_getChar_3b067_45 : decode cJ2_getChar_3b067 45 = .ok (.ishl, 1) := by decide +kernel
theorem dJ2_getChar_3b067_46 : decode cJ2_getChar_3b067 46 = .ok (.aload_n 0, 1) := by decide +kernel
theorem dJ2_getChar_3b067_47 : decode cJ2_getChar_3b067 47 = .ok (.iload_n 1, 1) := by decide +kernel
theorem dJ2_getChar_3b067_48 : decode cJ2_getChar_3b067 48 = .ok (.baload, 1) := by decide +kernel
theorem dJ2_getChar_3b067_49 : decode cJ2_getChar_3b067 49 = .ok (.sipush 255, 3) := by decide +kernel
theorem dJ2_getChar_3b067_52 : decode cJ2_getChar_3b067 52 = .ok (.iand, 1) := by decide +kernel
theorem dJ2_getChar_3b067_53 : decode cJ2_getChar_3b067 53 = .ok (.getstatic 63, 3) := by decide +kernel
theorem dJ2_getChar_3b067_56 : decode cJ2_getChar_3b067 56 = .ok (.ishl, 1) := by decide +kernel
theorem dJ2_getChar_3b067_57 : decode cJ2_getChar_3b067 57 = .ok (.ior, 1) := by decide +kernel
theorem dJ2_getChar_3b067_58 : decode cJ2_getChar_3b067 58 = .ok (.i2c, 1) := by decide +kernel
theorem dJ2_getChar_3b067_59 : decode cJ2_getChar_3b067 59 = .ok (.ireturn, 1) := by decide +kernel
theorem dJ2_length_9d52b_0 : decode cJ2_length_9d52b 0 = .ok (.aload_n 0, 1) := by decide +kernel
theorem dJ2_length_9d52b_1 : decode cJ2_length_9d52b 1 = .ok (.arraylength, 1) := by decide +kernel
theorem dJ2_length_9d52b_2 : decode cJ2_length_9d52b 2 = .ok (.iconst 1, 1) := by decide +kernel
theorem dJ2_length_9d52b_3 : decode cJ2_length_9d52b 3 = .ok (.ishr, 1) := by decide +kernel
theorem dJ2_length_9d52b_4 : decode cJ2_length_9d52b 4 = .ok (.ireturn, 1) := by decide +kernel
theorem dJ2_charAt_3b067_0 : decode cJ2_charAt_3b067 0 = .ok (.iload_n 1, 1) := by decide +kernel
theorem dJ2_charAt_3b067_1 : decode cJ2_charAt_3b067 1 = .ok (.aload_n 0, 1) := by decide +kernel
theorem dJ2_charAt_3b067_2 : decode cJ2_charAt_3b067 2 = .ok (.invokestatic 67, 3) := by decide +kernel
theorem dJ2_charAt_3b067_5 : decode cJ2_charAt_3b067 5 = .ok (.aload_n 0, 1) := by decide +kernel
theorem dJ2_charAt_3b067_6 : decode cJ2_charAt_3b067 6 = .ok (.iload_n 1, 1) := by decide +kernel
theorem dJ2_charAt_3b067_7 : decode cJ2_charAt_3b067 7 = .ok (.invokestatic 71, 3) := by decide +kernel
theorem dJ2_charAt_3b067_10 : decode cJ2_charAt_3b067 10 = .ok (.ireturn, 1) := by decide +kernel
theorem dJ2_checkIndex_2214a_0 : decode cJ2_checkIndex_2214a 0 = .ok (.iload_n 0, 1) := by decide +kernel
theorem dJ2_checkIndex_2214a_1 : decode cJ2_checkIndex_2214a 1 = .ok (.aload_n 1, 1) := by decide +kernel
theorem dJ2_checkIndex_2214a_2 : decode cJ2_checkIndex_2214a 2 = .ok (.invokestatic 48, 3) := by decide +kernel
theorem dJ2_checkIndex_2214a_5 : decode cJ2_checkIndex_2214a 5 = .ok (.invokestatic 414, 3) := by decide +kernel
theorem dJ2_checkIndex_2214a_8 : decode cJ2_checkIndex_2214a 8 = .ok (.return_, 1) := by decide +kernel
theorem dJ7_fill_53178_0 : decode cJ7_fill_53178 0 = .ok (.iconst 0, 1) := by decide +kernel
theorem dJ7_fill_53178_1 : decode cJ7_fill_53178 1 = .ok (.istore_n 2, 1) := by decide +kernel
theorem dJ7_fill_53178_2 : decode cJ7_fill_53178 2 = .ok (.aload_n 0, 1) := by decide +kernel
theorem dJ7_fill_53178_3 : decode cJ7_fill_53178 3 = .ok (.arraylength, 1) := by decide +kernel
theorem dJ7_fill_53178_4 : decode cJ7_fill_53178 4 = .ok (.istore_n 3, 1) := by decide +kernel
theorem dJ7_fill_53178_5 : decode cJ7_fill_53178 5 = .ok (.iload_n 2, 1) := by decide +kernel
theorem dJ7_fill_53178_6 : decode cJ7_fill_53178 6 = .ok (.iload_n 3, 1) := by decide +kernel
theorem dJ7_fill_53178_7 : decode cJ7_fill_53178 7 = .ok (.if_icmp .ge 13, 3) := by decide +kernel
theorem dJ7_fill_53178_10 : decode cJ7_fill_53178 10 = .ok (.aload_n 0, 1) := by decide +kernel
theorem dJ7_fill_53178_11 : decode cJ7_fill_53178 11 = .ok (.iload_n 2, 1) := by decide +kernel
theorem dJ7_fill_53178_12 : decode cJ7_fill_53178 12 = .ok (.iload_n 1, 1) := by decide +kernel
theorem dJ7_fill_53178_13 : decode cJ7_fill_53178 13 = .ok (.iastore, 1) := by decide +kernel
theorem dJ7_fill_53178_14 : decode cJ7_fill_53178 14 = .ok (.iinc 2 1, 3) := by decide +kernel
theorem dJ7_fill_53178_17 : decode cJ7_fill_53178 17 = .ok (.goto (-12), 3) := by decide +kernel
theorem dJ7_fill_53178_20 : decode cJ7_fill_53178 20 = .ok (.return_, 1) := by decide +kernel
theorem dJ3_checkIndex_8e157_0 : decode cJ3_checkIndex_8e157 0 = .ok (.iload_n 0, 1) := by decide +kernel
theorem dJ3_checkIndex_8e157_1 : decode cJ3_checkIndex_8e157 1 = .ok (.ifCond .lt 8, 3) := by decide +kernel
theorem dJ3_checkIndex_8e157_4 : decode cJ3_checkIndex_8e157 4 = .ok (.iload_n 0, 1) := by decide +kernel
theorem dJ3_checkIndex_8e157_5 : decode cJ3_checkIndex_8e157 5 = .ok (.iload_n 1, 1) := by decide +kernel
theorem dJ3_checkIndex_8e157_6 : decode cJ3_checkIndex_8e157 6 = .ok (.if_icmp .lt 10, 3) := by decide +kernel
theorem dJ3_checkIndex_8e157_9 : decode cJ3_checkIndex_8e157 9 = .ok (.aload_n 2, 1) := by decide +kernel
theorem dJ3_checkIndex_8e157_10 : decode cJ3_checkIndex_8e157 10 = .ok (.iload_n 0, 1) := by decide +kernel
theorem dJ3_checkIndex_8e157_11 : decode cJ3_checkIndex_8e157 11 = .ok (.iload_n 1, 1) := by decide +kernel
theorem dJ3_checkIndex_8e157_12 : decode cJ3_checkIndex_8e157 12 = .ok (.invokestatic 95, 3) := by decide +kernel
theorem dJ3_checkIndex_8e157_15 : decode cJ3_checkIndex_8e157 15 = .ok (.athrow, 1) := by decide +kernel
theorem dJ3_checkIndex_8e157_16 : decode cJ3_checkIndex_8e157 16 = .ok (.iload_n 0, 1) := by decide +kernel
theorem dJ3_checkIndex_8e157_17 : decode cJ3_checkIndex_8e157 17 = .ok (.ireturn, 1) := by decide +kernel
end
section
theorem dX8_init_0 : decode cX8_init 0 = .ok (.aload_n 0, 1) := by decide +kernel
theorem dX8_init_1 : decode cX8_init 1 = .ok (.invokespecial 1, 3) := by decide +kernel
theorem dX8_init_4 : decode cX8_init 4 = .ok (.aload_n 0, 1) := by decide +kernel
theorem dX8_init_5 : decode cX8_init 5 = .ok (.bipush 60, 2) := by decide +kernel
theorem dX8_init_7 : decode cX8_init 7 = .ok (.newarray .int, 2) := by decide +kernel
theorem dX8_init_9 : decode cX8_init 9 = .ok (.putfield 7, 3) := by decide +kernel
theorem dX8_init_12 : decode cX8_init 12 = .ok (.aload_n 0, 1) := by decide +kernel
theorem dX8_init_13 : decode cX8_init 13 = .ok (.bipush 60, 2) := by decide +kernel
theorem dX8_init_15 : decode cX8_init 15 = .ok (.newarray .int, 2) := by decide +kernel
theorem dX8_init_17 : decode cX8_init 17 = .ok (.putfield 13, 3) := by decide +kernel
theorem dX8_init_20 : decode cX8_init 20 = .ok (.aload_n 0, 1) := by decide +kernel
theorem dX8_init_21 : decode cX8_init 21 = .ok (.sipush 240, 3) := by decide +kernel
theorem dX8_init_24 : decode cX8_init 24 = .ok (.newarray .int, 2) := by decide +kernel
theorem dX8_init_26 : decode cX8_init 26 = .ok (.putfield 16, 3) := by decide +kernel
theorem dX8_init_29 : decode cX8_init 29 = .ok (.aload_n 0, 1) := by decide +kernel
theorem dX8_init_30 : decode cX8_init 30 = .ok (.bipush 60, 2) := by decide +kernel
theorem dX8_init_32 : decode cX8_init 32 = .ok (.newarray .int, 2) := by decide +kernel
theorem dX8_init_34 : decode cX8_init 34 = .ok (.putfield 19, 3) := by decide +kernel
theorem dX8_init_37 : decode cX8_init 37 = .ok (.aload_n 0, 1) := by decide +kernel
theorem dX8_init_38 : decode cX8_init 38 = .ok (.bipush 60, 2) := by decide +kernel
theorem dX8_init_40 : decode cX8_init 40 = .ok (.newarray .int, 2) := by decide +kernel
theorem dX8_init_42 : decode cX8_init 42 = .ok (.putfield 22, 3) := by decide +kernel
theorem dX8_init_45 : decode cX8_init 45 = .ok (.aload_n 0, 1) := by decide +kernel
theorem dX8_init_46 : decode cX8_init 46 = .ok (.sipush 6561, 3) := by decide +kernel
theorem dX8_init_49 : decode cX8_init 49 = .ok (.newarray .boolean, 2) := by decide +kernel
theorem dX8_init_51 : decode cX8_init 51 = .ok (.putfield 25, 3) := by decide +kernel
theorem dX8_init_54 : decode cX8_init 54 = .ok (.aload_n 0, 1) := by decide +kernel
theorem dX8_init_55 : decode cX8_init 55 = .ok (.sipush 6561, 3) := by decide +kernel
theorem dX8_init_58 : decode cX8_init 58 = .ok (.newarray .int, 2) := by decide +kernel
theorem dX8_init_60 : decode cX8_init 60 = .ok (.putfield 29, 3) := by decide +kernel
theorem dX8_init_63 : decode cX8_init 63 = .ok (.aload_n 0, 1) := by decide +kernel
theorem dX8_init_64 : decode cX8_init 64 = .ok (.sipush 6561, 3) := by decide +kernel
theorem dX8_init_67 : decode cX8_init 67 = .ok (.newarray .int, 2) := by decide +kernel
theorem dX8_init_69 : decode cX8_init 69 = .ok (.putfield 32, 3) := by decide +kernel
theorem dX8_init_72 : decode cX8_init 72 = .ok (.aload_n 0, 1) := by decide +kernel
theorem dX8_init_73 : decode cX8_init 73 = .ok (.sipush 6561, 3) := by decide +kernel
theorem dX8_init_76 : decode cX8_init 76 = .ok (.newarray .boolean, 2) := by decide +kernel
theorem dX8_init_78 : decode cX8_init 78 = .ok (.putfield 35, 3) := by decide +kernel
theorem dX8_init_81 : decode cX8_init 81 = .ok (.aload_n 0, 1) := by decide +kernel
theorem dX8_init_82 : decode cX8_init 82 = .ok (.sipush 4096, 3) := by decide +kernel
theorem dX8_init_85 : decode cX8_init 85 = .ok (.newarray .int, 2) := by decide +kernel
theorem dX8_init_87 : decode cX8_init 87 = .ok (.putfield 38, 3) := by decide +kernel
theorem dX8_init_90 : decode cX8_init 90 = .ok (.iconst 0, 1) := by decide +kernel
theorem dX8_init_91 : decode cX8_init 91 = .ok (.istore_n 1, 1) := by decide +kernel
theorem dX8_init_92 : decode cX8_init 92 = .ok (.iload_n 1, 1) := by decide +kernel
theorem dX8_init_93 : decode cX8_init 93 = .ok (.bipush 8, 2) := by decide +kernel
theorem dX8_init_95 : decode cX8_init 95 = .ok (.if_icmp .ge 18, 3) := by decide +kernel
theorem dX8_init_98 : decode cX8_init 98 = .ok (.aload_n 0, 1) := by decide +kernel
theorem dX8_init_99 : decode cX8_init 99 = .ok (.getfield 7, 3) := by decide +kernel
theorem dX8_init_102 : decode cX8_init 102 = .ok (.iload_n 1, 1) := by decide +kernel
theorem dX8_init_103 : decode cX8_init 103 = .ok (.iload_n 1, 1) := by decide +kernel
theorem dX8_init_104 : decode cX8_init 104 = .ok (.iconst 1, 1) := by decide +kernel
theorem dX8_init_105 : decode cX8_init 105 = .ok (.iadd, 1) := by decide +kernel
theorem dX8_init_106 : decode cX8_init 106 = .ok (.iastore, 1) := by decide +kernel
theorem dX8_init_107 : decode cX8_init 107 = .ok (.iinc 1 1, 3) := by decide +kernel
theorem dX8_init_110 : decode cX8_init 110 = .ok (.goto (-18), 3) := by decide +kernel
theorem dX8_init_113 : decode cX8_init 113 = .ok (.return_, 1) := by decide +kernel
theorem dX8_in_0 : decode cX8_in 0 = .ok (.iload_n 0, 1) := by decide +kernel
theorem dX8_in_1 : decode cX8_in 1 = .ok (.iload_n 1, 1) := by decide +kernel
theorem dX8_in_2 : decode cX8_in 2 = .ok (.if_icmp .lt 12, 3) := by decide +kernel
theorem dX8_in_5 : decode cX8_in 5 = .ok (.iload_n 0, 1) := by decide +kernel
theorem dX8_in_6 : decode cX8_in 6 = .ok (.iload_n 2, 1) := by decide +kernel
theorem dX8_in_7 : decode cX8_in 7 = .ok (.if_icmp .gt 7, 3) := by decide +kernel
theorem dX8_in_10 : decode cX8_in 10 = .ok (.iconst 1, 1) := by decide +kernel
theorem dX8_in_11 : decode cX8_in 11 = .ok (.goto 4, 3) := by decide +kernel
theorem dX8_in_14 : decode cX8_in 14 = .ok (.iconst 0, 1) := by decide +kernel
theorem dX8_in_15 : decode cX8_in 15 = .ok (.ireturn, 1) := by decide +kernel
theorem dX8_isMix_0 : decode cX8_isMix 0 = .ok (.iload_n 0, 1) := by decide +kernel
theorem dX8_isMix_1 : decode cX8_isMix 1 = .ok (.iconst 0, 1) := by decide +kernel
theorem dX8_isMix_2 : decode cX8_isMix 2 = .ok (.sipush 6560, 3) := by decide +kernel
theorem dX8_isMix_5 : decode cX8_isMix 5 = .ok (.invokestatic 41, 3) := by decide +kernel
theorem dX8_isMix_8 : decode cX8_isMix 8 = .ok (.ireturn, 1) := by decide +kernel
theorem dX8_putAside_0 : decode cX8_putAside 0 = .ok (.iconst 0, 1) := by decide +kernel
theorem dX8_putAside_1 : decode cX8_putAside 1 = .ok (.istore_n 1, 1) := by decide +kernel
theorem dX8_putAside_2 : decode cX8_putAside 2 = .ok (.iload_n 1, 1) := by decide +kernel
theorem dX8_putAside_3 : decode cX8_putAside 3 = .ok (.bipush 60, 2) := by decide +kernel
theorem dX8_putAside_5 : decode cX8_putAside 5 = .ok (.if_icmp .ge 21, 3) := by decide +kernel
theorem dX8_putAside_8 : decode cX8_putAside 8 = .ok (.aload_n 0, 1) := by decide +kernel
theorem dX8_putAside_9 : decode cX8_putAside 9 = .ok (.getfield 13, 3) := by decide +kernel
theorem dX8_putAside_12 : decode cX8_putAside 12 = .ok (.iload_n 1, 1) := by decide +kernel
theorem dX8_putAside_13 : decode cX8_putAside 13 = .ok (.aload_n 0, 1) := by decide +kernel
theorem dX8_putAside_14 : decode cX8_putAside 14 = .ok (.getfield 7, 3) := by decide +kernel
theorem dX8_putAside_17 : decode cX8_putAside 17 = .ok (.iload_n 1, 1) := by decide +kernel
theorem dX8_putAside_18 : decode cX8_putAside 18 = .ok (.iaload, 1) := by decide +kernel
theorem dX8_putAside_19 : decode cX8_putAside 19 = .ok (.iastore, 1) := by decide +kernel
theorem dX8_putAside_20 : decode cX8_putAside 20 = .ok (.iinc 1 1, 3) := by decide +kernel
theorem dX8_putAside_23 : decode cX8_putAside 23 = .ok (.goto (-21), 3) := by decide +kernel
theorem dX8_putAside_26 : decode cX8_putAside 26 = .ok (.return_, 1) := by decide +kernel
theorem dX8_act_0 : decode cX8_act 0 = .ok (.aload_n 0, 1) := by decide +kernel
theorem dX8_act_1 : decode cX8_act 1 = .ok (.iconst 0, 1) := by decide +kernel
theorem dX8_act_2 : decode cX8_act 2 = .ok (.putfield 45, 3) := by decide +kernel
theorem dX8_act_5 : decode cX8_act 5 = .ok (.iload_n 1, 1) := by decide +kernel
theorem dX8_act_6 : decode cX8_act 6 = .ok (.ifCond .ge 31, 3) := by decide +kernel
theorem dX8_act_9 : decode cX8_act 9 = .ok (.iconst 0, 1) := by decide +kernel
theorem dX8_act_10 : decode cX8_act 10 = .ok (.istore_n 2, 1) := by decide +kernel
theorem dX8_act_11 : decode cX8_act 11 = .ok (.iload_n 2, 1) := by decide +kernel
theorem dX8_act_12 : decode cX8_act 12 = .ok (.bipush 60, 2) := by decide +kernel
theorem dX8_act_14 : decode cX8_act 14 = .ok (.if_icmp .ge 21, 3) := by decide +kernel
theorem dX8_act_17 : decode cX8_act 17 = .ok (.aload_n 0, 1) := by decide +kernel
theorem dX8_act_18 : decode cX8_act 18 = .ok (.getfield 7, 3) := by decide +kernel
theorem dX8_act_21 : decode cX8_act 21 = .ok (.iload_n 2, 1) := by decide +kernel
theorem dX8_act_22 : decode cX8_act 22 = .ok (.aload_n 0, 1) := by decide +kernel
theorem dX8_act_23 : decode cX8_act 23 = .ok (.getfield 13, 3) := by decide +kernel
theorem dX8_act_26 : decode cX8_act 26 = .ok (.iload_n 2, 1) := by decide +kernel
theorem dX8_act_27 : decode cX8_act 27 = .ok (.iaload, 1) := by decide +kernel
theorem dX8_act_28 : decode cX8_act 28 = .ok (.iastore, 1) := by decide +kernel
theorem dX8_act_29 : decode cX8_act 29 = .ok (.iinc 2 1, 3) := by decide +kernel
theorem dX8_act_32 : decode cX8_act 32 = .ok (.goto (-21), 3) := by decide +kernel
theorem dX8_act_35 : decode cX8_act 35 = .ok (.iload_n 1, 1) := by decide +kernel
theorem dX8_act_36 : decode cX8_act 36 = .ok (.ireturn, 1) := by decide +kernel
theorem dX8_act_37 : decode cX8_act 37 = .ok (.aload_n 0, 1) := by decide +kernel
theorem dX8_act_38 : decode cX8_act 38 = .ok (.getfield 49, 3) := by decide +kernel
theorem dX8_act_41 : decode cX8_act 41 = .ok (.iconst 4, 1) := by decide +kernel
theorem dX8_act_42 : decode cX8_act 42 = .ok (.if_icmp .ne 43, 3) := by decide +kernel
theorem dX8_act_45 : decode cX8_act 45 = .ok (.iconst 0, 1) := by decide +kernel
theorem dX8_act_46 : decode cX8_act 46 = .ok (.istore_n 2, 1) := by decide +kernel
theorem dX8_act_47 : decode cX8_act 47 = .ok (.iload_n 2, 1) := by decide +kernel
theorem dX8_act_48 : decode cX8_act 48 = .ok (.sipush 180, 3) := by decide +kernel
theorem dX8_act_51 : decode cX8_act 51 = .ok (.if_icmp .ge 24, 3) := by decide +kernel
theorem dX8_act_54 : decode cX8_act 54 = .ok (.aload_n 0, 1) := by decide +kernel
theorem dX8_act_55 : decode cX8_act 55 = .ok (.getfield 16, 3) := by decide +kernel
theorem dX8_act_58 : decode cX8_act 58 = .ok (.iload_n 2, 1) := by decide +kernel
theorem dX8_act_59 : decode cX8_act 59 = .ok (.aload_n 0, 1) := by decide +kernel
theorem dX8_act_60 : decode cX8_act 60 = .ok (.getfield 16, 3) := by decide +kernel
theorem dX8_act_63 : decode cX8_act 63 = .ok (.bipush 60, 2) := by decide +kernel
theorem dX8_act_65 : decode cX8_act 65 = .ok (.iload_n 2, 1) := by decide +kernel
theorem dX8_act_66 : decode cX8_act 66 = .ok (.iadd, 1) := by decide +kernel
theorem dX8_act_67 : decode cX8_act 67 = .ok (.iaload, 1) := by decide +kernel
theorem dX8_act_68 : decode cX8_act 68 = .ok (.iastore, 1) := by decide +kernel
theorem dX8_act_69 : decode cX8_act 69 = .ok (.iinc 2 1, 3) := by decide +kernel
theorem dX8_act_72 : decode cX8_act 72 = .ok (.goto (-25), 3) := by decide +kernel
theorem dX8_act_75 : decode cX8_act 75 = .ok (.aload_n 0, 1) := by decide +kernel
theorem dX8_act_76 : decode cX8_act 76 = .ok (.dup, 1) := by decide +kernel
theorem dX8_act_77 : decode cX8_act 77 = .ok (.getfield 49, 3) := by decide +kernel
theorem dX8_act_80 : decode cX8_act 80 = .ok (.iconst 1, 1) := by decide +kernel
theorem dX8_act_81 : decode cX8_act 81 = .ok (.isub, 1) := by decide +kernel
theorem dX8_act_82 : decode cX8_act 82 = .ok (.putfield 49, 3) := by decide +kernel
theorem dX8_act_85 : decode cX8_act 85 = .ok (.iconst 0, 1) := by decide +kernel
theorem dX8_act_86 : decode cX8_act 86 = .ok (.istore_n 2, 1) := by decide +kernel
theorem dX8_act_87 : decode cX8_act 87 = .ok (.iload_n 2, 1) := by decide +kernel
theorem dX8_act_88 : decode cX8_act 88 = .ok (.bipush 60, 2) := by decide +kernel
theorem dX8_act_90 : decode cX8_act 90 = .ok (.if_icmp .ge 29, 3) := by decide +kernel
theorem dX8_act_93 : decode cX8_act 93 = .ok (.aload_n 0, 1) := by decide +kernel
theorem dX8_act_94 : decode cX8_act 94 = .ok (.getfield 16, 3) := by decide +kernel
theorem dX8_act_97 : decode cX8_act 97 = .ok (.bipush 60, 2) := by decide +kernel
theorem dX8_act_99 : decode cX8_act 99 = .ok (.aload_n 0, 1) := by decide +kernel
theorem dX8_act_100 : decode cX8_act 100 = .ok (.getfield 49, 3) := by decide +kernel
theorem dX8_act_103 : decode cX8_act 103 = .ok (.imul, 1) := by decide +kernel
theorem dX8_act_104 : decode cX8_act 104 = .ok (.iload_n 2, 1) := by decide +kernel
theorem dX8_act_105 : decode cX8_act 105 = .ok (.iadd, 1) := by decide +kernel
theorem dX8_act_106 : decode cX8_act 106 = .ok (.aload_n 0, 1) := by decide +kernel
theorem dX8_act_107 : decode cX8_act 107 = .ok (.getfield 13, 3) := by decide +kernel
theorem dX8_act_110 : decode cX8_act 110 = .ok (.iload_n 2, 1) := by decide +kernel
theorem dX8_act_111 : decode cX8_act 111 = .ok (.iaload, 1) := by decide +kernel
theorem dX8_act_112 : decode cX8_act 112 = .ok (.iastore, 1) := by decide +kernel
theorem dX8_act_113 : decode cX8_act 113 = .ok (.iinc 2 1, 3) := by decide +kernel
theorem dX8_act_116 : decode cX8_act 116 = .ok (.goto (-29), 3) := by decide +kernel
theorem dX8_act_119 : decode cX8_act 119 = .ok (.aload_n 0, 1) := by decide +kernel
theorem dX8_act_120 : decode cX8_act 120 = .ok (.dup, 1) := by decide +kernel
theorem dX8_act_121 : decode cX8_act 121 = .ok (.getfield 49, 3) := by decide +kernel
theorem dX8_act_124 : decode cX8_act 124 = .ok (.iconst 1, 1) := by decide +kernel
theorem dX8_act_125 : decode cX8_act 125 = .ok (.iadd, 1) := by decide +kernel
theorem dX8_act_126 : decode cX8_act 126 = .ok (.putfield 49, 3) := by decide +kernel
theorem dX8_act_129 : decode cX8_act 129 = .ok (.iload_n 1, 1) := by decide +kernel
theorem dX8_act_130 : decode cX8_act 130 = .ok (.ireturn, 1) := by decide +kernel
theorem dX8_mixed_0 : decode cX8_mixed 0 = .ok (.iconst 0, 1) := by decide +kernel
theorem dX8_mixed_1 : decode cX8_mixed 1 = .ok (.istore_n 2, 1) := by decide +kernel
theorem dX8_mixed_2 : decode cX8_mixed 2 = .ok (.iconst 1, 1) := by decide +kernel
theorem dX8_mixed_3 : decode cX8_mixed 3 = .ok (.istore_n 3, 1) := by decide +kernel
theorem dX8_mixed_4 : decode cX8_mixed 4 = .ok (.iload_n 0, 1) := by decide +kernel
theorem dX8_mixed_5 : decode cX8_mixed 5 = .ok (.istore 4, 2) := by decide +kernel
theorem dX8_mixed_7 : decode cX8_mixed 7 = .ok (.iload_n 1, 1) := by decide +kernel
theorem dX8_mixed_8 : decode cX8_mixed 8 = .ok (.istore 5, 2) := by decide +kernel
theorem dX8_mixed_10 : decode cX8_mixed 10 = .ok (.iconst 0, 1) := by decide +kernel
theorem dX8_mixed_11 : decode cX8_mixed 11 = .ok (.istore 6, 2) := by decide +kernel
theorem dX8_mixed_13 : decode cX8_mixed 13 = .ok (.iload 6, 2) := by decide +kernel
theorem dX8_mixed_15 : decode cX8_mixed 15 = .ok (.bipush 8, 2) := by decide +kernel
theorem dX8_mixed_17 : decode cX8_mixed 17 = .ok (.if_icmp .ge 41, 3) := by decide +kernel
theorem dX8_mixed_20 : decode cX8_mixed 20 = .ok (.iload_n 2, 1) := by decide +kernel
theorem dX8_mixed_21 : decode cX8_mixed 21 = .ok (.iload 4, 2) := by decide +kernel
theorem dX8_mixed_23 : decode cX8_mixed 23 = .ok (.iconst 3, 1) := by decide +kernel
theorem dX8_mixed_24 : decode cX8_mixed 24 = .ok (.irem, 1) := by decide +kernel
theorem dX8_mixed_25 : decode cX8_mixed 25 = .ok (.iload 5, 2) := by decide +kernel
theorem dX8_mixed_27 : decode cX8_mixed 27 = .ok (.iconst 3, 1) := by decide +kernel
theorem dX8_mixed_28 : decode cX8_mixed 28 = .ok (.irem, 1) := by decide +kernel
theorem dX8_mixed_29 : decode cX8_mixed 29 = .ok (.iadd, 1) := by decide +kernel
theorem dX8_mixed_30 : decode cX8_mixed 30 = .ok (.iconst 3, 1) := by decide +kernel
theorem dX8_mixed_31 : decode cX8_mixed 31 = .ok (.irem, 1) := by decide +kernel
theorem dX8_mixed_32 : decode cX8_mixed 32 = .ok (.iload_n 3, 1) := by decide +kernel
theorem dX8_mixed_33 : decode cX8_mixed 33 = .ok (.imul, 1) := by decide +kernel
theorem dX8_mixed_34 : decode cX8_mixed 34 = .ok (.iadd, 1) := by decide +kernel
theorem dX8_mixed_35 : decode cX8_mixed 35 = .ok (.istore_n 2, 1) := by decide +kernel
theorem dX8_mixed_36 : decode cX8_mixed 36 = .ok (.iload_n 3, 1) := by decide +kernel
theorem dX8_mixed_37 : decode cX8_mixed 37 = .ok (.iconst 3, 1) := by decide +kernel
theorem dX8_mixed_38 : decode cX8_mixed 38 = .ok (.imul, 1) := by decide +kernel
theorem dX8_mixed_39 : decode cX8_mixed 39 = .ok (.istore_n 3, 1) := by decide +kernel
theorem dX8_mixed_40 : decode cX8_mixed 40 = .ok (.iload 4, 2) := by decide +kernel
theorem dX8_mixed_42 : decode cX8_mixed 42 = .ok (.iconst 3, 1) := by decide +kernel
theorem dX8_mixed_43 : decode cX8_mixed 43 = .ok (.idiv, 1) := by decide +kernel
theorem dX8_mixed_44 : decode cX8_mixed 44 = .ok (.istore 4, 2) := by decide +kernel
theorem dX8_mixed_46 : decode cX8_mixed 46 = .ok (.iload 5, 2) := by decide +kernel
theorem dX8_mixed_48 : decode cX8_mixed 48 = .ok (.iconst 3, 1) := by decide +kernel
theorem dX8_mixed_49 : decode cX8_mixed 49 = .ok (.idiv, 1) := by decide +kernel
theorem dX8_mixed_50 : decode cX8_mixed 50 = .ok (.istore 5, 2) := by decide +kernel
theorem dX8_mixed_52 : decode cX8_mixed 52 = .ok (.iinc 6 1, 3) := by decide +kernel
theorem dX8_mixed_55 : decode cX8_mixed 55 = .ok (.goto (-42), 3) := by decide +kernel
theorem dX8_mixed_58 : decode cX8_mixed 58 = .ok (.iload_n 2, 1) := by decide +kernel
theorem dX8_mixed_59 : decode cX8_mixed 59 = .ok (.ireturn, 1) := by decide +kernel
theorem dX8_units_0 : decode cX8_units 0 = .ok (.iconst 0, 1) := by decide +kernel
theorem dX8_units_1 : decode cX8_units 1 = .ok (.istore_n 1, 1) := by decide +kernel
theorem dX8_units_2 : decode cX8_units 2 = .ok (.iload_n 0, 1) := by decide +kernel
theorem dX8_units_3 : decode cX8_units 3 = .ok (.istore_n 2, 1) := by decide +kernel
theorem dX8_units_4 : decode cX8_units 4 = .ok (.iload_n 2, 1) := by decide +kernel
theorem dX8_units_5 : decode cX8_units 5 = .ok (.ifCond .le 16, 3) := by decide +kernel
theorem dX8_units_8 : decode cX8_units 8 = .ok (.iload_n 1, 1) := by decide +kernel
theorem dX8_units_9 : decode cX8_units 9 = .ok (.iload_n 2, 1) := by decide +kernel
theorem dX8_units_10 : decode cX8_units 10 = .ok (.iconst 3, 1) := by decide +kernel
theorem dX8_units_11 : decode cX8_units 11 = .ok (.irem, 1) := by decide +kernel
theorem dX8_units_12 : decode cX8_units 12 = .ok (.iadd, 1) := by decide +kernel
theorem dX8_units_13 : decode cX8_units 13 = .ok (.istore_n 1, 1) := by decide +kernel
theorem dX8_units_14 : decode cX8_units 14 = .ok (.iload_n 2, 1) := by decide +kernel
theorem dX8_units_15 : decode cX8_units 15 = .ok (.iconst 3, 1) := by decide +kernel
theorem dX8_units_16 : decode cX8_units 16 = .ok (.idiv, 1) := by decide +kernel
theorem dX8_units_17 : decode cX8_units 17 = .ok (.istore_n 2, 1) := by decide +kernel
theorem dX8_units_18 : decode cX8_units 18 = .ok (.goto (-14), 3) := by decide +kernel
theorem dX8_units_21 : decode cX8_units 21 = .ok (.iload_n 1, 1) := by decide +kernel
theorem dX8_units_22 : decode cX8_units 22 = .ok (.ireturn, 1) := by decide +kernel
theorem dX8_priceOf_0 : decode cX8_priceOf 0 = .ok (.iconst 0, 1) := by decide +kernel
theorem dX8_priceOf_1 : decode cX8_priceOf 1 = .ok (.istore_n 2, 1) := by decide +kernel
theorem dX8_priceOf_2 : decode cX8_priceOf 2 = .ok (.iload_n 1, 1) := by decide +kernel
theorem dX8_priceOf_3 : decode cX8_priceOf 3 = .ok (.istore_n 3, 1) := by decide +kernel
theorem dX8_priceOf_4 : decode cX8_priceOf 4 = .ok (.iconst 0, 1) := by decide +kernel
theorem dX8_priceOf_5 : decode cX8_priceOf 5 = .ok (.istore 4, 2) := by decide +kernel
theorem dX8_priceOf_7 : decode cX8_priceOf 7 = .ok (.iload 4, 2) := by decide +kernel
theorem dX8_priceOf_9 : decode cX8_priceOf 9 = .ok (.bipush 8, 2) := by decide +kernel
theorem dX8_priceOf_11 : decode cX8_priceOf 11 = .ok (.if_icmp .ge 27, 3) := by decide +kernel
theorem dX8_priceOf_14 : decode cX8_priceOf 14 = .ok (.iload_n 2, 1) := by decide +kernel
theorem dX8_priceOf_15 : decode cX8_priceOf 15 = .ok (.iload_n 3, 1) := by decide +kernel
theorem dX8_priceOf_16 : decode cX8_priceOf 16 = .ok (.iconst 3, 1) := by decide +kernel
theorem dX8_priceOf_17 : decode cX8_priceOf 17 = .ok (.irem, 1) := by decide +kernel
theorem dX8_priceOf_18 : decode cX8_priceOf 18 = .ok (.aload_n 0, 1) := by decide +kernel
theorem dX8_priceOf_19 : decode cX8_priceOf 19 = .ok (.getfield 7, 3) := by decide +kernel
theorem dX8_priceOf_22 : decode cX8_priceOf 22 = .ok (.iload 4, 2) := by decide +kernel
theorem dX8_priceOf_24 : decode cX8_priceOf 24 = .ok (.iaload, 1) := by decide +kernel
theorem dX8_priceOf_25 : decode cX8_priceOf 25 = .ok (.imul, 1) := by decide +kernel
theorem dX8_priceOf_26 : decode cX8_priceOf 26 = .ok (.iadd, 1) := by decide +kernel
theorem dX8_priceOf_27 : decode cX8_priceOf 27 = .ok (.istore_n 2, 1) := by decide +kernel
theorem dX8_priceOf_28 : decode cX8_priceOf 28 = .ok (.iload_n 3, 1) := by decide +kernel
theorem dX8_priceOf_29 : decode cX8_priceOf 29 = .ok (.iconst 3, 1) := by decide +kernel
theorem dX8_priceOf_30 : decode cX8_priceOf 30 = .ok (.idiv, 1) := by decide +kernel
theorem dX8_priceOf_31 : decode cX8_priceOf 31 = .ok (.istore_n 3, 1) := by decide +kernel
theorem dX8_priceOf_32 : decode cX8_priceOf 32 = .ok (.iinc 4 1, 3) := by decide +kernel
theorem dX8_priceOf_35 : decode cX8_priceOf 35 = .ok (.goto (-28), 3) := by decide +kernel
theorem dX8_priceOf_38 : decode cX8_priceOf 38 = .ok (.iload_n 2, 1) := by decide +kernel
theorem dX8_priceOf_39 : decode cX8_priceOf 39 = .ok (.ireturn, 1) := by decide +kernel
theorem dX8_layBland_0 : decode cX8_layBland 0 = .ok (.iconst 0, 1) := by decide +kernel
theorem dX8_layBland_1 : decode cX8_layBland 1 = .ok (.istore_n 2, 1) := by decide +kernel
theorem dX8_layBland_2 : decode cX8_layBland 2 = .ok (.iload_n 2, 1) := by decide +kernel
theorem dX8_layBland_3 : decode cX8_layBland 3 = .ok (.sipush 6561, 3) := by decide +kernel
theorem dX8_layBland_6 : decode cX8_layBland 6 = .ok (.if_icmp .ge 24, 3) := by decide +kernel
theorem dX8_layBland_9 : decode cX8_layBland 9 = .ok (.aload_n 0, 1) := by decide +kernel
theorem dX8_layBland_10 : decode cX8_layBland 10 = .ok (.getfield 25, 3) := by decide +kernel
theorem dX8_layBland_13 : decode cX8_layBland 13 = .ok (.iload_n 2, 1) := by decide +kernel
theorem dX8_layBland_14 : decode cX8_layBland 14 = .ok (.iload_n 2, 1) := by decide +kernel
theorem dX8_layBland_15 : decode cX8_layBland 15 = .ok (.ifCond .ne 7, 3) := by decide +kernel
theorem dX8_layBland_18 : decode cX8_layBland 18 = .ok (.iconst 1, 1) := by decide +kernel
theorem dX8_layBland_19 : decode cX8_layBland 19 = .ok (.goto 4, 3) := by decide +kernel
theorem dX8_layBland_22 : decode cX8_layBland 22 = .ok (.iconst 0, 1) := by decide +kernel
theorem dX8_layBland_23 : decode cX8_layBland 23 = .ok (.bastore, 1) := by decide +kernel
theorem dX8_layBland_24 : decode cX8_layBland 24 = .ok (.iinc 2 1, 3) := by decide +kernel
theorem dX8_layBland_27 : decode cX8_layBland 27 = .ok (.goto (-25), 3) := by decide +kernel
theorem dX8_layBland_30 : decode cX8_layBland 30 = .ok (.iconst 0, 1) := by decide +kernel
theorem dX8_layBland_31 : decode cX8_layBland 31 = .ok (.istore_n 2, 1) := by decide +kernel
theorem dX8_layBland_32 : decode cX8_layBland 32 = .ok (.iconst 0, 1) := by decide +kernel
theorem dX8_layBland_33 : decode cX8_layBland 33 = .ok (.istore_n 3, 1) := by decide +kernel
theorem dX8_layBland_34 : decode cX8_layBland 34 = .ok (.iload_n 3, 1) := by decide +kernel
theorem dX8_layBland_35 : decode cX8_layBland 35 = .ok (.aload_n 0, 1) := by decide +kernel
theorem dX8_layBland_36 : decode cX8_layBland 36 = .ok (.getfield 7, 3) := by decide +kernel
theorem dX8_layBland_39 : decode cX8_layBland 39 = .ok (.bipush 34, 2) := by decide +kernel
theorem dX8_layBland_41 : decode cX8_layBland 41 = .ok (.iaload, 1) := by decide +kernel
theorem dX8_layBland_42 : decode cX8_layBland 42 = .ok (.if_icmp .ge 126, 3) := by decide +kernel
theorem dX8_layBland_45 : decode cX8_layBland 45 = .ok (.aload_n 0, 1) := by decide +kernel
theorem dX8_layBland_46 : decode cX8_layBland 46 = .ok (.getfield 7, 3) := by decide +kernel
theorem dX8_layBland_49 : decode cX8_layBland 49 = .ok (.bipush 35, 2) := by decide +kernel
theorem dX8_layBland_51 : decode cX8_layBland 51 = .ok (.iload_n 3, 1) := by decide +kernel
theorem dX8_layBland_52 : decode cX8_layBland 52 = .ok (.iadd, 1) := by decide +kernel
theorem dX8_layBland_53 : decode cX8_layBland 53 = .ok (.iaload, 1) := by decide +kernel
theorem dX8_layBland_54 : decode cX8_layBland 54 = .ok (.istore 4, 2) := by decide +kernel
theorem dX8_layBland_56 : decode cX8_layBland 56 = .ok (.iload_n 3, 1) := by decide +kernel
theorem dX8_layBland_57 : decode cX8_layBland 57 = .ok (.iload_n 1, 1) := by decide +kernel
theorem dX8_layBland_58 : decode cX8_layBland 58 = .ok (.if_icmp .eq 104, 3) := by decide +kernel
theorem dX8_layBland_61 : decode cX8_layBland 61 = .ok (.aload_n 0, 1) := by decide +kernel
theorem dX8_layBland_62 : decode cX8_layBland 62 = .ok (.getfield 25, 3) := by decide +kernel
theorem dX8_layBland_65 : decode cX8_layBland 65 = .ok (.iload 4, 2) := by decide +kernel
theorem dX8_layBland_67 : decode cX8_layBland 67 = .ok (.baload, 1) := by decide +kernel
theorem dX8_layBland_68 : decode cX8_layBland 68 = .ok (.ifCond .ne 94, 3) := by decide +kernel
theorem dX8_layBland_71 : decode cX8_layBland 71 = .ok (.iinc 2 1, 3) := by decide +kernel
theorem dX8_layBland_74 : decode cX8_layBland 74 = .ok (.iconst 0, 1) := by decide +kernel
theorem dX8_layBland_75 : decode cX8_layBland 75 = .ok (.istore 5, 2) := by decide +kernel
theorem dX8_layBland_77 : decode cX8_layBland 77 = .ok (.iload 5, 2) := by decide +kernel
theorem dX8_layBland_79 : decode cX8_layBland 79 = .ok (.sipush 6561, 3) := by decide +kernel
theorem dX8_layBland_82 : decode cX8_layBland 82 = .ok (.if_icmp .ge 23, 3) := by decide +kernel
theorem dX8_layBland_85 : decode cX8_layBland 85 = .ok (.aload_n 0, 1) := by decide +kernel
theorem dX8_layBland_86 : decode cX8_layBland 86 = .ok (.getfield 35, 3) := by decide +kernel
theorem dX8_layBland_89 : decode cX8_layBland 89 = .ok (.iload 5, 2) := by decide +kernel
theorem dX8_layBland_91 : decode cX8_layBland 91 = .ok (.aload_n 0, 1) := by decide +kernel
theorem dX8_layBland_92 : decode cX8_layBland 92 = .ok (.getfield 25, 3) := by decide +kernel
theorem dX8_layBland_95 : decode cX8_layBland 95 = .ok (.iload 5, 2) := by decide +kernel
theorem dX8_layBland_97 : decode cX8_layBland 97 = .ok (.baload, 1) := by decide +kernel
theorem dX8_layBland_98 : decode cX8_layBland 98 = .ok (.bastore, 1) := by decide +kernel
theorem dX8_layBland_99 : decode cX8_layBland 99 = .ok (.iinc 5 1, 3) := by decide +kernel
theorem dX8_layBland_102 : decode cX8_layBland 102 = .ok (.goto (-25), 3) := by decide +kernel
theorem dX8_layBland_105 : decode cX8_layBland 105 = .ok (.iconst 0, 1) := by decide +kernel
theorem dX8_layBland_106 : decode cX8_layBland 106 = .ok (.istore 5, 2) := by decide +kernel
theorem dX8_layBland_108 : decode cX8_layBland 108 = .ok (.iload 5, 2) := by decide +kernel
theorem dX8_layBland_110 : decode cX8_layBland 110 = .ok (.sipush 6561, 3) := by decide +kernel
theorem dX8_layBland_113 : decode cX8_layBland 113 = .ok (.if_icmp .ge 49, 3) := by decide +kernel
theorem dX8_layBland_116 : decode cX8_layBland 116 = .ok (.aload_n 0, 1) := by decide +kernel
theorem dX8_layBland_117 : decode cX8_layBland 117 = .ok (.getfield 35, 3) := by decide +kernel
theorem dX8_layBland_120 : decode cX8_layBland 120 = .ok (.iload 5, 2) := by decide +kernel
theorem dX8_layBland_122 : decode cX8_layBland 122 = .ok (.baload, 1) := by decide +kernel
theorem dX8_layBland_123 : decode cX8_layBland 123 = .ok (.ifCond .eq 33, 3) := by decide +kernel
theorem dX8_layBland_126 : decode cX8_layBland 126 = .ok (.iload 5, 2) := by decide +kernel
theorem dX8_layBland_128 : decode cX8_layBland 128 = .ok (.iload 4, 2) := by decide +kernel
theorem dX8_layBland_130 : decode cX8_layBland 130 = .ok (.invokestatic 53, 3) := by decide +kernel
theorem dX8_layBland_133 : decode cX8_layBland 133 = .ok (.istore 6, 2) := by decide +kernel
theorem dX8_layBland_135 : decode cX8_layBland 135 = .ok (.aload_n 0, 1) := by decide +kernel
theorem dX8_layBland_136 : decode cX8_layBland 136 = .ok (.getfield 25, 3) := by decide +kernel
theorem dX8_layBland_139 : decode cX8_layBland 139 = .ok (.iload 6, 2) := by decide +kernel
theorem dX8_layBland_141 : decode cX8_layBland 141 = .ok (.iconst 1, 1) := by decide +kernel
theorem dX8_layBland_142 : decode cX8_layBland 142 = .ok (.bastore, 1) := by decide +kernel
theorem dX8_layBland_143 : decode cX8_layBland 143 = .ok (.aload_n 0, 1) := by decide +kernel
theorem dX8_layBland_144 : decode cX8_layBland 144 = .ok (.getfield 25, 3) := by decide +kernel
theorem dX8_layBland_147 : decode cX8_layBland 147 = .ok (.iload 6, 2) := by decide +kernel
theorem dX8_layBland_149 : decode cX8_layBland 149 = .ok (.iload 4, 2) := by decide +kernel
theorem dX8_layBland_151 : decode cX8_layBland 151 = .ok (.invokestatic 53, 3) := by decide +kernel
theorem dX8_layBland_154 : decode cX8_layBland 154 = .ok (.iconst 1, 1) := by decide +kernel
theorem dX8_layBland_155 : decode cX8_layBland 155 = .ok (.bastore, 1) := by decide +kernel
theorem dX8_layBland_156 : decode cX8_layBland 156 = .ok (.iinc 5 1, 3) := by decide +kernel
theorem dX8_layBland_159 : decode cX8_layBland 159 = .ok (.goto (-51), 3) := by decide +kernel
theorem dX8_layBland_162 : decode cX8_layBland 162 = .ok (.iinc 3 1, 3) := by decide +kernel
theorem dX8_layBland_165 : decode cX8_layBland 165 = .ok (.goto (-131), 3) := by decide +kernel
theorem dX8_layBland_168 : decode cX8_layBland 168 = .ok (.iload_n 2, 1) := by decide +kernel
theorem dX8_layBland_169 : decode cX8_layBland 169 = .ok (.ireturn, 1) := by decide +kernel
theorem dX8_lay_0 : decode cX8_lay 0 = .ok (.aload_n 0, 1) := by decide +kernel
theorem dX8_lay_1 : decode cX8_lay 1 = .ok (.getfield 45, 3) := by decide +kernel
theorem dX8_lay_4 : decode cX8_lay 4 = .ok (.ifCond .eq 4, 3) := by decide +kernel
theorem dX8_lay_7 : decode cX8_lay 7 = .ok (.return_, 1) := by decide +kernel
theorem dX8_lay_8 : decode cX8_lay 8 = .ok (.aload_n 0, 1) := by decide +kernel
theorem dX8_lay_9 : decode cX8_lay 9 = .ok (.aload_n 0, 1) := by decide +kernel
theorem dX8_lay_10 : decode cX8_lay 10 = .ok (.bipush (-5), 2) := by decide +kernel
theorem dX8_lay_12 : decode cX8_lay 12 = .ok (.invokevirtual 57, 3) := by decide +kernel
theorem dX8_lay_15 : decode cX8_lay 15 = .ok (.putfield 61, 3) := by decide +kernel
theorem dX8_lay_18 : decode cX8_lay 18 = .ok (.iconst 0, 1) := by decide +kernel
theorem dX8_lay_19 : decode cX8_lay 19 = .ok (.istore_n 1, 1) := by decide +kernel
theorem dX8_lay_20 : decode cX8_lay 20 = .ok (.iconst 0, 1) := by decide +kernel
theorem dX8_lay_21 : decode cX8_lay 21 = .ok (.istore_n 2, 1) := by decide +kernel
theorem dX8_lay_22 : decode cX8_lay 22 = .ok (.iload_n 2, 1) := by decide +kernel
theorem dX8_lay_23 : decode cX8_lay 23 = .ok (.sipush 6561, 3) := by decide +kernel
theorem dX8_lay_26 : decode cX8_lay 26 = .ok (.if_icmp .ge 36, 3) := by decide +kernel
theorem dX8_lay_29 : decode cX8_lay 29 = .ok (.aload_n 0, 1) := by decide +kernel
theorem dX8_lay_30 : decode cX8_lay 30 = .ok (.getfield 29, 3) := by decide +kernel
theorem dX8_lay_33 : decode cX8_lay 33 = .ok (.iload_n 2, 1) := by decide +kernel
theorem dX8_lay_34 : decode cX8_lay 34 = .ok (.bipush (-5), 2) := by decide +kernel
theorem dX8_lay_36 : decode cX8_lay 36 = .ok (.iastore, 1) := by decide +kernel
theorem dX8_lay_37 : decode cX8_lay 37 = .ok (.aload_n 0, 1) := by decide +kernel
theorem dX8_lay_38 : decode cX8_lay 38 = .ok (.getfield 25, 3) := by decide +kernel
theorem dX8_lay_41 : decode cX8_lay 41 = .ok (.iload_n 2, 1) := by decide +kernel
theorem dX8_lay_42 : decode cX8_lay 42 = .ok (.baload, 1) := by decide +kernel
theorem dX8_lay_43 : decode cX8_lay 43 = .ok (.ifCond .eq 13, 3) := by decide +kernel
theorem dX8_lay_46 : decode cX8_lay 46 = .ok (.aload_n 0, 1) := by decide +kernel
theorem dX8_lay_47 : decode cX8_lay 47 = .ok (.getfield 32, 3) := by decide +kernel
theorem dX8_lay_50 : decode cX8_lay 50 = .ok (.iload_n 1, 1) := by decide +kernel
theorem dX8_lay_51 : decode cX8_lay 51 = .ok (.iload_n 2, 1) := by decide +kernel
theorem dX8_lay_52 : decode cX8_lay 52 = .ok (.iastore, 1) := by decide +kernel
theorem dX8_lay_53 : decode cX8_lay 53 = .ok (.iinc 1 1, 3) := by decide +kernel
theorem dX8_lay_56 : decode cX8_lay 56 = .ok (.iinc 2 1, 3) := by decide +kernel
theorem dX8_lay_59 : decode cX8_lay 59 = .ok (.goto (-37), 3) := by decide +kernel
theorem dX8_lay_62 : decode cX8_lay 62 = .ok (.iconst 0, 1) := by decide +kernel
theorem dX8_lay_63 : decode cX8_lay 63 = .ok (.istore_n 2, 1) := by decide +kernel
theorem dX8_lay_64 : decode cX8_lay 64 = .ok (.iload_n 2, 1) := by decide +kernel
theorem dX8_lay_65 : decode cX8_lay 65 = .ok (.sipush 6561, 3) := by decide +kernel
theorem dX8_lay_68 : decode cX8_lay 68 = .ok (.if_icmp .ge 62, 3) := by decide +kernel
theorem dX8_lay_71 : decode cX8_lay 71 = .ok (.aload_n 0, 1) := by decide +kernel
theorem dX8_lay_72 : decode cX8_lay 72 = .ok (.getfield 29, 3) := by decide +kernel
theorem dX8_lay_75 : decode cX8_lay 75 = .ok (.iload_n 2, 1) := by decide +kernel
theorem dX8_lay_76 : decode cX8_lay 76 = .ok (.iaload, 1) := by decide +kernel
theorem dX8_lay_77 : decode cX8_lay 77 = .ok (.bipush (-5), 2) := by decide +kernel
theorem dX8_lay_79 : decode cX8_lay 79 = .ok (.if_icmp .ne 7, 3) := by decide +kernel
theorem dX8_lay_82 : decode cX8_lay 82 = .ok (.iconst 1, 1) := by decide +kernel
theorem dX8_lay_83 : decode cX8_lay 83 = .ok (.goto 4, 3) := by decide +kernel
theorem dX8_lay_86 : decode cX8_lay 86 = .ok (.iconst 0, 1) := by decide +kernel
theorem dX8_lay_87 : decode cX8_lay 87 = .ok (.istore_n 3, 1) := by decide +kernel
theorem dX8_lay_88 : decode cX8_lay 88 = .ok (.iconst 0, 1) := by decide +kernel
theorem dX8_lay_89 : decode cX8_lay 89 = .ok (.istore 4, 2) := by decide +kernel
theorem dX8_lay_91 : decode cX8_lay 91 = .ok (.iload 4, 2) := by decide +kernel
theorem dX8_lay_93 : decode cX8_lay 93 = .ok (.iload_n 1, 1) := by decide +kernel
theorem dX8_lay_94 : decode cX8_lay 94 = .ok (.if_icmp .ge 30, 3) := by decide +kernel
theorem dX8_lay_97 : decode cX8_lay 97 = .ok (.iload_n 3, 1) := by decide +kernel
theorem dX8_lay_98 : decode cX8_lay 98 = .ok (.ifCond .eq 26, 3) := by decide +kernel
theorem dX8_lay_101 : decode cX8_lay 101 = .ok (.aload_n 0, 1) := by decide +kernel
theorem dX8_lay_102 : decode cX8_lay 102 = .ok (.getfield 29, 3) := by decide +kernel
theorem dX8_lay_105 : decode cX8_lay 105 = .ok (.iload_n 2, 1) := by decide +kernel
theorem dX8_lay_106 : decode cX8_lay 106 = .ok (.aload_n 0, 1) := by decide +kernel
theorem dX8_lay_107 : decode cX8_lay 107 = .ok (.getfield 32, 3) := by decide +kernel
theorem dX8_lay_110 : decode cX8_lay 110 = .ok (.iload 4, 2) := by decide +kernel
theorem dX8_lay_112 : decode cX8_lay 112 = .ok (.iaload, 1) := by decide +kernel
theorem dX8_lay_113 : decode cX8_lay 113 = .ok (.invokestatic 53, 3) := by decide +kernel
theorem dX8_lay_116 : decode cX8_lay 116 = .ok (.iload_n 2, 1) := by decide +kernel
theorem dX8_lay_117 : decode cX8_lay 117 = .ok (.iastore, 1) := by decide +kernel
theorem dX8_lay_118 : decode cX8_lay 118 = .ok (.iinc 4 1, 3) := by decide +kernel
theorem dX8_lay_121 : decode cX8_lay 121 = .ok (.goto (-30), 3) := by decide +kernel
theorem dX8_lay_124 : decode cX8_lay 124 = .ok (.iinc 2 1, 3) := by decide +kernel
theorem dX8_lay_127 : decode cX8_lay 127 = .ok (.goto (-63), 3) := by decide +kernel
theorem dX8_lay_130 : decode cX8_lay 130 = .ok (.aload_n 0, 1) := by decide +kernel
theorem dX8_lay_131 : decode cX8_lay 131 = .ok (.iconst 1, 1) := by decide +kernel
theorem dX8_lay_132 : decode cX8_lay 132 = .ok (.putfield 45, 3) := by decide +kernel
theorem dX8_lay_135 : decode cX8_lay 135 = .ok (.return_, 1) := by decide +kernel
theorem dX8_taste_0 : decode cX8_taste 0 = .ok (.aload_n 0, 1) := by decide +kernel
theorem dX8_taste_1 : decode cX8_taste 1 = .ok (.invokevirtual 64, 3) := by decide +kernel
theorem dX8_taste_4 : decode cX8_taste 4 = .ok (.aload_n 0, 1) := by decide +kernel
theorem dX8_taste_5 : decode cX8_taste 5 = .ok (.getfield 29, 3) := by decide +kernel
theorem dX8_taste_8 : decode cX8_taste 8 = .ok (.iload_n 1, 1) := by decide +kernel
theorem dX8_taste_9 : decode cX8_taste 9 = .ok (.iaload, 1) := by decide +kernel
theorem dX8_taste_10 : decode cX8_taste 10 = .ok (.ireturn, 1) := by decide +kernel
theorem dX8_strength_0 : decode cX8_strength 0 = .ok (.aload_n 0, 1) := by decide +kernel
theorem dX8_strength_1 : decode cX8_strength 1 = .ok (.invokevirtual 64, 3) := by decide +kernel
theorem dX8_strength_4 : decode cX8_strength 4 = .ok (.aload_n 0, 1) := by decide +kernel
theorem dX8_strength_5 : decode cX8_strength 5 = .ok (.getfield 61, 3) := by decide +kernel
theorem dX8_strength_8 : decode cX8_strength 8 = .ok (.ireturn, 1) := by decide +kernel
theorem dX8_power_0 : decode cX8_power 0 = .ok (.iconst 1, 1) := by decide +kernel
theorem dX8_power_1 : decode cX8_power 1 = .ok (.istore_n 1, 1) := by decide +kernel
theorem dX8_power_2 : decode cX8_power 2 = .ok (.iconst 0, 1) := by decide +kernel
theorem dX8_power_3 : decode cX8_power 3 = .ok (.istore_n 2, 1) := by decide +kernel
theorem dX8_power_4 : decode cX8_power 4 = .ok (.iload_n 2, 1) := by decide +kernel
theorem dX8_power_5 : decode cX8_power 5 = .ok (.iload_n 0, 1) := by decide +kernel
theorem dX8_power_6 : decode cX8_power 6 = .ok (.if_icmp .ge 13, 3) := by decide +kernel
theorem dX8_power_9 : decode cX8_power 9 = .ok (.iload_n 1, 1) := by decide +kernel
theorem dX8_power_10 : decode cX8_power 10 = .ok (.iconst 3, 1) := by decide +kernel
theorem dX8_power_11 : decode cX8_power 11 = .ok (.imul, 1) := by decide +kernel
theorem dX8_power_12 : decode cX8_power 12 = .ok (.istore_n 1, 1) := by decide +kernel
theorem dX8_power_13 : decode cX8_power 13 = .ok (.iinc 2 1, 3) := by decide +kernel
theorem dX8_power_16 : decode cX8_power 16 = .ok (.goto (-12), 3) := by decide +kernel
theorem dX8_power_19 : decode cX8_power 19 = .ok (.iload_n 1, 1) := by decide +kernel
theorem dX8_power_20 : decode cX8_power 20 = .ok (.ireturn, 1) := by decide +kernel
theorem dX8_cheapest_0 : decode cX8_cheapest 0 = .ok (.aload_n 0, 1) := by decide +kernel
theorem dX8_cheapest_1 : decode cX8_cheapest 1 = .ok (.iload_n 1, 1) := by decide +kernel
theorem dX8_cheapest_2 : decode cX8_cheapest 2 = .ok (.invokevirtual 67, 3) := by decide +kernel
theorem dX8_cheapest_5 : decode cX8_cheapest 5 = .ok (.istore_n 2, 1) := by decide +kernel
theorem dX8_cheapest_6 : decode cX8_cheapest 6 = .ok (.iload_n 2, 1) := by decide +kernel
theorem dX8_cheapest_7 : decode cX8_cheapest 7 = .ok (.istore_n 3, 1) := by decide +kernel
theorem dX8_cheapest_8 : decode cX8_cheapest 8 = .ok (.aload_n 0, 1) := by decide +kernel
theorem dX8_cheapest_9 : decode cX8_cheapest 9 = .ok (.iload_n 2, 1) := by decide +kernel
theorem dX8_cheapest_10 : decode cX8_cheapest 10 = .ok (.invokevirtual 70, 3) := by decide +kernel
theorem dX8_cheapest_13 : decode cX8_cheapest 13 = .ok (.istore 4, 2) := by decide +kernel
theorem dX8_cheapest_15 : decode cX8_cheapest 15 = .ok (.iload_n 2, 1) := by decide +kernel
theorem dX8_cheapest_16 : decode cX8_cheapest 16 = .ok (.iconst 1, 1) := by decide +kernel
theorem dX8_cheapest_17 : decode cX8_cheapest 17 = .ok (.iadd, 1) := by decide +kernel
theorem dX8_cheapest_18 : decode cX8_cheapest 18 = .ok (.istore 5, 2) := by decide +kernel
theorem dX8_cheapest_20 : decode cX8_cheapest 20 = .ok (.iload 5, 2) := by decide +kernel
theorem dX8_cheapest_22 : decode cX8_cheapest 22 = .ok (.sipush 6561, 3) := by decide +kernel
theorem dX8_cheapest_25 : decode cX8_cheapest 25 = .ok (.if_icmp .ge 42, 3) := by decide +kernel
theorem dX8_cheapest_28 : decode cX8_cheapest 28 = .ok (.aload_n 0, 1) := by decide +kernel
theorem dX8_cheapest_29 : decode cX8_cheapest 29 = .ok (.getfield 29, 3) := by decide +kernel
theorem dX8_cheapest_32 : decode cX8_cheapest 32 = .ok (.iload 5, 2) := by decide +kernel
theorem dX8_cheapest_34 : decode cX8_cheapest 34 = .ok (.iaload, 1) := by decide +kernel
theorem dX8_cheapest_35 : decode cX8_cheapest 35 = .ok (.iload_n 2, 1) := by decide +kernel
theorem dX8_cheapest_36 : decode cX8_cheapest 36 = .ok (.if_icmp .ne 25, 3) := by decide +kernel
theorem dX8_cheapest_39 : decode cX8_cheapest 39 = .ok (.aload_n 0, 1) := by decide +kernel
theorem dX8_cheapest_40 : decode cX8_cheapest 40 = .ok (.iload 5, 2) := by decide +kernel
theorem dX8_cheapest_42 : decode cX8_cheapest 42 = .ok (.invokevirtual 70, 3) := by decide +kernel
theorem dX8_cheapest_45 : decode cX8_cheapest 45 = .ok (.iload 4, 2) := by decide +kernel
theorem dX8_cheapest_47 : decode cX8_cheapest 47 = .ok (.if_icmp .ge 14, 3) := by decide +kernel
theorem dX8_cheapest_50 : decode cX8_cheapest 50 = .ok (.iload 5, 2) := by decide +kernel
theorem dX8_cheapest_52 : decode cX8_cheapest 52 = .ok (.istore_n 3, 1) := by decide +kernel
theorem dX8_cheapest_53 : decode cX8_cheapest 53 = .ok (.aload_n 0, 1) := by decide +kernel
theorem dX8_cheapest_54 : decode cX8_cheapest 54 = .ok (.iload 5, 2) := by decide +kernel
theorem dX8_cheapest_56 : decode cX8_cheapest 56 = .ok (.invokevirtual 70, 3) := by decide +kernel
theorem dX8_cheapest_59 : decode cX8_cheapest 59 = .ok (.istore 4, 2) := by decide +kernel
theorem dX8_cheapest_61 : decode cX8_cheapest 61 = .ok (.iinc 5 1, 3) := by decide +kernel
theorem dX8_cheapest_64 : decode cX8_cheapest 64 = .ok (.goto (-44), 3) := by decide +kernel
theorem dX8_cheapest_67 : decode cX8_cheapest 67 = .ok (.iload_n 3, 1) := by decide +kernel
theorem dX8_cheapest_68 : decode cX8_cheapest 68 = .ok (.ireturn, 1) := by decide +kernel
theorem dX8_mixIn_0 : decode cX8_mixIn 0 = .ok (.aload_n 0, 1) := by decide +kernel
theorem dX8_mixIn_1 : decode cX8_mixIn 1 = .ok (.getfield 7, 3) := by decide +kernel
theorem dX8_mixIn_4 : decode cX8_mixIn 4 = .ok (.bipush 9, 2) := by decide +kernel
theorem dX8_mixIn_6 : decode cX8_mixIn 6 = .ok (.iconst 2, 1) := by decide +kernel
theorem dX8_mixIn_7 : decode cX8_mixIn 7 = .ok (.iload_n 1, 1) := by decide +kernel
theorem dX8_mixIn_8 : decode cX8_mixIn 8 = .ok (.imul, 1) := by decide +kernel
theorem dX8_mixIn_9 : decode cX8_mixIn 9 = .ok (.iadd, 1) := by decide +kernel
theorem dX8_mixIn_10 : decode cX8_mixIn 10 = .ok (.iconst 1, 1) := by decide +kernel
theorem dX8_mixIn_11 : decode cX8_mixIn 11 = .ok (.iadd, 1) := by decide +kernel
theorem dX8_mixIn_12 : decode cX8_mixIn 12 = .ok (.iaload, 1) := by decide +kernel
theorem dX8_mixIn_13 : decode cX8_mixIn 13 = .ok (.ireturn, 1) := by decide +kernel
theorem dX8_numberOf_0 : decode cX8_numberOf 0 = .ok (.aload_n 0, 1) := by decide +kernel
theorem dX8_numberOf_1 : decode cX8_numberOf 1 = .ok (.getfield 7, 3) := by decide +kernel
theorem dX8_numberOf_4 : decode cX8_numberOf 4 = .ok (.bipush 9, 2) := by decide +kernel
theorem dX8_numberOf_6 : decode cX8_numberOf 6 = .ok (.iconst 2, 1) := by decide +kernel
theorem dX8_numberOf_7 : decode cX8_numberOf 7 = .ok (.iload_n 1, 1) := by decide +kernel
theorem dX8_numberOf_8 : decode cX8_numberOf 8 = .ok (.imul, 1) := by decide +kernel
theorem dX8_numberOf_9 : decode cX8_numberOf 9 = .ok (.iadd, 1) := by decide +kernel
theorem dX8_numberOf_10 : decode cX8_numberOf 10 = .ok (.iaload, 1) := by decide +kernel
theorem dX8_numberOf_11 : decode cX8_numberOf 11 = .ok (.ireturn, 1) := by decide +kernel
theorem dX8_find_0 : decode cX8_find 0 = .ok (.iconst 0, 1) := by decide +kernel
theorem dX8_find_1 : decode cX8_find 1 = .ok (.istore_n 2, 1) := by decide +kernel
theorem dX8_find_2 : decode cX8_find 2 = .ok (.iload_n 2, 1) := by decide +kernel
theorem dX8_find_3 : decode cX8_find 3 = .ok (.aload_n 0, 1) := by decide +kernel
theorem dX8_find_4 : decode cX8_find 4 = .ok (.getfield 7, 3) := by decide +kernel
theorem dX8_find_7 : decode cX8_find 7 = .ok (.bipush 8, 2) := by decide +kernel
theorem dX8_find_9 : decode cX8_find 9 = .ok (.iaload, 1) := by decide +kernel
theorem dX8_find_10 : decode cX8_find 10 = .ok (.if_icmp .ge 20, 3) := by decide +kernel
theorem dX8_find_13 : decode cX8_find 13 = .ok (.aload_n 0, 1) := by decide +kernel
theorem dX8_find_14 : decode cX8_find 14 = .ok (.iload_n 2, 1) := by decide +kernel
theorem dX8_find_15 : decode cX8_find 15 = .ok (.invokevirtual 73, 3) := by decide +kernel
theorem dX8_find_18 : decode cX8_find 18 = .ok (.iload_n 1, 1) := by decide +kernel
theorem dX8_find_19 : decode cX8_find 19 = .ok (.if_icmp .ne 5, 3) := by decide +kernel
theorem dX8_find_22 : decode cX8_find 22 = .ok (.iload_n 2, 1) := by decide +kernel
theorem dX8_find_23 : decode cX8_find 23 = .ok (.ireturn, 1) := by decide +kernel
theorem dX8_find_24 : decode cX8_find 24 = .ok (.iinc 2 1, 3) := by decide +kernel
theorem dX8_find_27 : decode cX8_find 27 = .ok (.goto (-25), 3) := by decide +kernel
theorem dX8_find_30 : decode cX8_find 30 = .ok (.bipush (-5), 2) := by decide +kernel
theorem dX8_find_32 : decode cX8_find 32 = .ok (.ireturn, 1) := by decide +kernel
theorem dX8_dropJar_0 : decode cX8_dropJar 0 = .ok (.aload_n 0, 1) := by decide +kernel
theorem dX8_dropJar_1 : decode cX8_dropJar 1 = .ok (.getfield 7, 3) := by decide +kernel
theorem dX8_dropJar_4 : decode cX8_dropJar 4 = .ok (.bipush 8, 2) := by decide +kernel
theorem dX8_dropJar_6 : decode cX8_dropJar 6 = .ok (.dup2, 1) := by decide +kernel
theorem dX8_dropJar_7 : decode cX8_dropJar 7 = .ok (.iaload, 1) := by decide +kernel
theorem dX8_dropJar_8 : decode cX8_dropJar 8 = .ok (.iconst 1, 1) := by decide +kernel
theorem dX8_dropJar_9 : decode cX8_dropJar 9 = .ok (.isub, 1) := by decide +kernel
theorem dX8_dropJar_10 : decode cX8_dropJar 10 = .ok (.iastore, 1) := by decide +kernel
theorem dX8_dropJar_11 : decode cX8_dropJar 11 = .ok (.bipush 9, 2) := by decide +kernel
theorem dX8_dropJar_13 : decode cX8_dropJar 13 = .ok (.iconst 2, 1) := by decide +kernel
theorem dX8_dropJar_14 : decode cX8_dropJar 14 = .ok (.iload_n 1, 1) := by decide +kernel
theorem dX8_dropJar_15 : decode cX8_dropJar 15 = .ok (.imul, 1) := by decide +kernel
theorem dX8_dropJar_16 : decode cX8_dropJar 16 = .ok (.iadd, 1) := by decide +kernel
theorem dX8_dropJar_17 : decode cX8_dropJar 17 = .ok (.istore_n 2, 1) := by decide +kernel
theorem dX8_dropJar_18 : decode cX8_dropJar 18 = .ok (.iload_n 2, 1) := by decide +kernel
theorem dX8_dropJar_19 : decode cX8_dropJar 19 = .ok (.bipush 9, 2) := by decide +kernel
theorem dX8_dropJar_21 : decode cX8_dropJar 21 = .ok (.iconst 2, 1) := by decide +kernel
theorem dX8_dropJar_22 : decode cX8_dropJar 22 = .ok (.aload_n 0, 1) := by decide +kernel
theorem dX8_dropJar_23 : decode cX8_dropJar 23 = .ok (.getfield 7, 3) := by decide +kernel
theorem dX8_dropJar_26 : decode cX8_dropJar 26 = .ok (.bipush 8, 2) := by decide +kernel
theorem dX8_dropJar_28 : decode cX8_dropJar 28 = .ok (.iaload, 1) := by decide +kernel
theorem dX8_dropJar_29 : decode cX8_dropJar 29 = .ok (.imul, 1) := by decide +kernel
theorem dX8_dropJar_30 : decode cX8_dropJar 30 = .ok (.iadd, 1) := by decide +kernel
theorem dX8_dropJar_31 : decode cX8_dropJar 31 = .ok (.if_icmp .ge 23, 3) := by decide +kernel
theorem dX8_dropJar_34 : decode cX8_dropJar 34 = .ok (.aload_n 0, 1) := by decide +kernel
theorem dX8_dropJar_35 : decode cX8_dropJar 35 = .ok (.getfield 7, 3) := by decide +kernel
theorem dX8_dropJar_38 : decode cX8_dropJar 38 = .ok (.iload_n 2, 1) := by decide +kernel
theorem dX8_dropJar_39 : decode cX8_dropJar 39 = .ok (.aload_n 0, 1) := by decide +kernel
theorem dX8_dropJar_40 : decode cX8_dropJar 40 = .ok (.getfield 7, 3) := by decide +kernel
theorem dX8_dropJar_43 : decode cX8_dropJar 43 = .ok (.iload_n 2, 1) := by decide +kernel
theorem dX8_dropJar_44 : decode cX8_dropJar 44 = .ok (.iconst 2, 1) := by decide +kernel
theorem dX8_dropJar_45 : decode cX8_dropJar 45 = .ok (.iadd, 1) := by decide +kernel
theorem dX8_dropJar_46 : decode cX8_dropJar 46 = .ok (.iaload, 1) := by decide +kernel
theorem dX8_dropJar_47 : decode cX8_dropJar 47 = .ok (.iastore, 1) := by decide +kernel
theorem dX8_dropJar_48 : decode cX8_dropJar 48 = .ok (.iinc 2 1, 3) := by decide +kernel
theorem dX8_dropJar_51 : decode cX8_dropJar 51 = .ok (.goto (-33), 3) := by decide +kernel
theorem dX8_dropJar_54 : decode cX8_dropJar 54 = .ok (.aload_n 0, 1) := by decide +kernel
theorem dX8_dropJar_55 : decode cX8_dropJar 55 = .ok (.getfield 7, 3) := by decide +kernel
theorem dX8_dropJar_58 : decode cX8_dropJar 58 = .ok (.bipush 9, 2) := by decide +kernel
theorem dX8_dropJar_60 : decode cX8_dropJar 60 = .ok (.iconst 2, 1) := by decide +kernel
theorem dX8_dropJar_61 : decode cX8_dropJar 61 = .ok (.aload_n 0, 1) := by decide +kernel
theorem dX8_dropJar_62 : decode cX8_dropJar 62 = .ok (.getfield 7, 3) := by decide +kernel
theorem dX8_dropJar_65 : decode cX8_dropJar 65 = .ok (.bipush 8, 2) := by decide +kernel
theorem dX8_dropJar_67 : decode cX8_dropJar 67 = .ok (.iaload, 1) := by decide +kernel
theorem dX8_dropJar_68 : decode cX8_dropJar 68 = .ok (.imul, 1) := by decide +kernel
theorem dX8_dropJar_69 : decode cX8_dropJar 69 = .ok (.iadd, 1) := by decide +kernel
theorem dX8_dropJar_70 : decode cX8_dropJar 70 = .ok (.iconst 0, 1) := by decide +kernel
theorem dX8_dropJar_71 : decode cX8_dropJar 71 = .ok (.iastore, 1) := by decide +kernel
theorem dX8_dropJar_72 : decode cX8_dropJar 72 = .ok (.aload_n 0, 1) := by decide +kernel
theorem dX8_dropJar_73 : decode cX8_dropJar 73 = .ok (.getfield 7, 3) := by decide +kernel
theorem dX8_dropJar_76 : decode cX8_dropJar 76 = .ok (.bipush 9, 2) := by decide +kernel
theorem dX8_dropJar_78 : decode cX8_dropJar 78 = .ok (.iconst 2, 1) := by decide +kernel
theorem dX8_dropJar_79 : decode cX8_dropJar 79 = .ok (.aload_n 0, 1) := by decide +kernel
theorem dX8_dropJar_80 : decode cX8_dropJar 80 = .ok (.getfield 7, 3) := by decide +kernel
theorem dX8_dropJar_83 : decode cX8_dropJar 83 = .ok (.bipush 8, 2) := by decide +kernel
theorem dX8_dropJar_85 : decode cX8_dropJar 85 = .ok (.iaload, 1) := by decide +kernel
theorem dX8_dropJar_86 : decode cX8_dropJar 86 = .ok (.imul, 1) := by decide +kernel
theorem dX8_dropJar_87 : decode cX8_dropJar 87 = .ok (.iadd, 1) := by decide +kernel
theorem dX8_dropJar_88 : decode cX8_dropJar 88 = .ok (.iconst 1, 1) := by decide +kernel
theorem dX8_dropJar_89 : decode cX8_dropJar 89 = .ok (.iadd, 1) := by decide +kernel
theorem dX8_dropJar_90 : decode cX8_dropJar 90 = .ok (.iconst 0, 1) := by decide +kernel
theorem dX8_dropJar_91 : decode cX8_dropJar 91 = .ok (.iastore, 1) := by decide +kernel
theorem dX8_dropJar_92 : decode cX8_dropJar 92 = .ok (.return_, 1) := by decide +kernel
theorem dX8_jarsLike_0 : decode cX8_jarsLike 0 = .ok (.iconst 0, 1) := by decide +kernel
theorem dX8_jarsLike_1 : decode cX8_jarsLike 1 = .ok (.istore_n 2, 1) := by decide +kernel
theorem dX8_jarsLike_2 : decode cX8_jarsLike 2 = .ok (.iconst 0, 1) := by decide +kernel
theorem dX8_jarsLike_3 : decode cX8_jarsLike 3 = .ok (.istore_n 3, 1) := by decide +kernel
theorem dX8_jarsLike_4 : decode cX8_jarsLike 4 = .ok (.iload_n 3, 1) := by decide +kernel
theorem dX8_jarsLike_5 : decode cX8_jarsLike 5 = .ok (.aload_n 0, 1) := by decide +kernel
theorem dX8_jarsLike_6 : decode cX8_jarsLike 6 = .ok (.getfield 7, 3) := by decide +kernel
theorem dX8_jarsLike_9 : decode cX8_jarsLike 9 = .ok (.bipush 8, 2) := by decide +kernel
theorem dX8_jarsLike_11 : decode cX8_jarsLike 11 = .ok (.iaload, 1) := by decide +kernel
theorem dX8_jarsLike_12 : decode cX8_jarsLike 12 = .ok (.if_icmp .ge 34, 3) := by decide +kernel
theorem dX8_jarsLike_15 : decode cX8_jarsLike 15 = .ok (.iload_n 2, 1) := by decide +kernel
theorem dX8_jarsLike_16 : decode cX8_jarsLike 16 = .ok (.aload_n 0, 1) := by decide +kernel
theorem dX8_jarsLike_17 : decode cX8_jarsLike 17 = .ok (.aload_n 0, 1) := by decide +kernel
theorem dX8_jarsLike_18 : decode cX8_jarsLike 18 = .ok (.iload_n 3, 1) := by decide +kernel
theorem dX8_jarsLike_19 : decode cX8_jarsLike 19 = .ok (.invokevirtual 76, 3) := by decide +kernel
theorem dX8_jarsLike_22 : decode cX8_jarsLike 22 = .ok (.invokevirtual 67, 3) := by decide +kernel
theorem dX8_jarsLike_25 : decode cX8_jarsLike 25 = .ok (.aload_n 0, 1) := by decide +kernel
theorem dX8_jarsLike_26 : decode cX8_jarsLike 26 = .ok (.iload_n 1, 1) := by decide +kernel
theorem dX8_jarsLike_27 : decode cX8_jarsLike 27 = .ok (.invokevirtual 67, 3) := by decide +kernel
theorem dX8_jarsLike_30 : decode cX8_jarsLike 30 = .ok (.if_icmp .ne 7, 3) := by decide +kernel
theorem dX8_jarsLike_33 : decode cX8_jarsLike 33 = .ok (.iconst 1, 1) := by decide +kernel
theorem dX8_jarsLike_34 : decode cX8_jarsLike 34 = .ok (.goto 4, 3) := by decide +kernel
theorem dX8_jarsLike_37 : decode cX8_jarsLike 37 = .ok (.iconst 0, 1) := by decide +kernel
theorem dX8_jarsLike_38 : decode cX8_jarsLike 38 = .ok (.iadd, 1) := by decide +kernel
theorem dX8_jarsLike_39 : decode cX8_jarsLike 39 = .ok (.istore_n 2, 1) := by decide +kernel
theorem dX8_jarsLike_40 : decode cX8_jarsLike 40 = .ok (.iinc 3 1, 3) := by decide +kernel
theorem dX8_jarsLike_43 : decode cX8_jarsLike 43 = .ok (.goto (-39), 3) := by decide +kernel
theorem dX8_jarsLike_46 : decode cX8_jarsLike 46 = .ok (.iload_n 2, 1) := by decide +kernel
theorem dX8_jarsLike_47 : decode cX8_jarsLike 47 = .ok (.ireturn, 1) := by decide +kernel
theorem dX8_unitsInJars_0 : decode cX8_unitsInJars 0 = .ok (.iconst 0, 1) := by decide +kernel
theorem dX8_unitsInJars_1 : decode cX8_unitsInJars 1 = .ok (.istore_n 1, 1) := by decide +kernel
theorem dX8_unitsInJars_2 : decode cX8_unitsInJars 2 = .ok (.iconst 0, 1) := by decide +kernel
theorem dX8_unitsInJars_3 : decode cX8_unitsInJars 3 = .ok (.istore_n 2, 1) := by decide +kernel
theorem dX8_unitsInJars_4 : decode cX8_unitsInJars 4 = .ok (.iload_n 2, 1) := by decide +kernel
theorem dX8_unitsInJars_5 : decode cX8_unitsInJars 5 = .ok (.aload_n 0, 1) := by decide +kernel
theorem dX8_unitsInJars_6 : decode cX8_unitsInJars 6 = .ok (.getfield 7, 3) := by decide +kernel
theorem dX8_unitsInJars_9 : decode cX8_unitsInJars 9 = .ok (.bipush 8, 2) := by decide +kernel
theorem dX8_unitsInJars_11 : decode cX8_unitsInJars 11 = .ok (.iaload, 1) := by decide +kernel
theorem dX8_unitsInJars_12 : decode cX8_unitsInJars 12 = .ok (.if_icmp .ge 20, 3) := by decide +kernel
theorem dX8_unitsInJars_15 : decode cX8_unitsInJars 15 = .ok (.iload_n 1, 1) := by decide +kernel
theorem dX8_unitsInJars_16 : decode cX8_unitsInJars 16 = .ok (.aload_n 0, 1) := by decide +kernel
theorem dX8_unitsInJars_17 : decode cX8_unitsInJars 17 = .ok (.iload_n 2, 1) := by decide +kernel
theorem dX8_unitsInJars_18 : decode cX8_unitsInJars 18 = .ok (.invokevirtual 76, 3) := by decide +kernel
theorem dX8_unitsInJars_21 : decode cX8_unitsInJars 21 = .ok (.invokestatic 79, 3) := by decide +kernel
theorem dX8_unitsInJars_24 : decode cX8_unitsInJars 24 = .ok (.iadd, 1) := by decide +kernel
theorem dX8_unitsInJars_25 : decode cX8_unitsInJars 25 = .ok (.istore_n 1, 1) := by decide +kernel
theorem dX8_unitsInJars_26 : decode cX8_unitsInJars 26 = .ok (.iinc 2 1, 3) := by decide +kernel
theorem dX8_unitsInJars_29 : decode cX8_unitsInJars 29 = .ok (.goto (-25), 3) := by decide +kernel
theorem dX8_unitsInJars_32 : decode cX8_unitsInJars 32 = .ok (.iload_n 1, 1) := by decide +kernel
theorem dX8_unitsInJars_33 : decode cX8_unitsInJars 33 = .ok (.ireturn, 1) := by decide +kernel
theorem dX8_comes_0 : decode cX8_comes 0 = .ok (.aload_n 0, 1) := by decide +kernel
theorem dX8_comes_1 : decode cX8_comes 1 = .ok (.getfield 7, 3) := by decide +kernel
theorem dX8_comes_4 : decode cX8_comes 4 = .ok (.bipush 8, 2) := by decide +kernel
theorem dX8_comes_6 : decode cX8_comes 6 = .ok (.iaload, 1) := by decide +kernel
theorem dX8_comes_7 : decode cX8_comes 7 = .ok (.bipush 12, 2) := by decide +kernel
theorem dX8_comes_9 : decode cX8_comes 9 = .ok (.if_icmp .eq 16, 3) := by decide +kernel
theorem dX8_comes_12 : decode cX8_comes 12 = .ok (.aload_n 0, 1) := by decide +kernel
theorem dX8_comes_13 : decode cX8_comes 13 = .ok (.getfield 7, 3) := by decide +kernel
theorem dX8_comes_16 : decode cX8_comes 16 = .ok (.bipush 33, 2) := by decide +kernel
theorem dX8_comes_18 : decode cX8_comes 18 = .ok (.iaload, 1) := by decide +kernel
theorem dX8_comes_19 : decode cX8_comes 19 = .ok (.sipush 200, 3) := by decide +kernel
theorem dX8_comes_22 : decode cX8_comes 22 = .ok (.if_icmp .ne 6, 3) := by decide +kernel
theorem dX8_comes_25 : decode cX8_comes 25 = .ok (.bipush (-3), 2) := by decide +kernel
theorem dX8_comes_27 : decode cX8_comes 27 = .ok (.ireturn, 1) := by decide +kernel
theorem dX8_comes_28 : decode cX8_comes 28 = .ok (.aload_n 0, 1) := by decide +kernel
theorem dX8_comes_29 : decode cX8_comes 29 = .ok (.getfield 7, 3) := by decide +kernel
theorem dX8_comes_32 : decode cX8_comes 32 = .ok (.bipush 33, 2) := by decide +kernel
theorem dX8_comes_34 : decode cX8_comes 34 = .ok (.iaload, 1) := by decide +kernel
theorem dX8_comes_35 : decode cX8_comes 35 = .ok (.istore 4, 2) := by decide +kernel
theorem dX8_comes_37 : decode cX8_comes 37 = .ok (.aload_n 0, 1) := by decide +kernel
theorem dX8_comes_38 : decode cX8_comes 38 = .ok (.getfield 7, 3) := by decide +kernel
theorem dX8_comes_41 : decode cX8_comes 41 = .ok (.bipush 9, 2) := by decide +kernel
theorem dX8_comes_43 : decode cX8_comes 43 = .ok (.iconst 2, 1) := by decide +kernel
theorem dX8_comes_44 : decode cX8_comes 44 = .ok (.aload_n 0, 1) := by decide +kernel
theorem dX8_comes_45 : decode cX8_comes 45 = .ok (.getfield 7, 3) := by decide +kernel
theorem dX8_comes_48 : decode cX8_comes 48 = .ok (.bipush 8, 2) := by decide +kernel
theorem dX8_comes_50 : decode cX8_comes 50 = .ok (.iaload, 1) := by decide +kernel
theorem dX8_comes_51 : decode cX8_comes 51 = .ok (.imul, 1) := by decide +kernel
theorem dX8_comes_52 : decode cX8_comes 52 = .ok (.iadd, 1) := by decide +kernel
theorem dX8_comes_53 : decode cX8_comes 53 = .ok (.iload 4, 2) := by decide +kernel
theorem dX8_comes_55 : decode cX8_comes 55 = .ok (.iastore, 1) := by decide +kernel
theorem dX8_comes_56 : decode cX8_comes 56 = .ok (.aload_n 0, 1) := by decide +kernel
theorem dX8_comes_57 : decode cX8_comes 57 = .ok (.getfield 7, 3) := by decide +kernel
theorem dX8_comes_60 : decode cX8_comes 60 = .ok (.bipush 9, 2) := by decide +kernel
theorem dX8_comes_62 : decode cX8_comes 62 = .ok (.iconst 2, 1) := by decide +kernel
theorem dX8_comes_63 : decode cX8_comes 63 = .ok (.aload_n 0, 1) := by decide +kernel
theorem dX8_comes_64 : decode cX8_comes 64 = .ok (.getfield 7, 3) := by decide +kernel
theorem dX8_comes_67 : decode cX8_comes 67 = .ok (.bipush 8, 2) := by decide +kernel
theorem dX8_comes_69 : decode cX8_comes 69 = .ok (.iaload, 1) := by decide +kernel
theorem dX8_comes_70 : decode cX8_comes 70 = .ok (.imul, 1) := by decide +kernel
theorem dX8_comes_71 : decode cX8_comes 71 = .ok (.iadd, 1) := by decide +kernel
theorem dX8_comes_72 : decode cX8_comes 72 = .ok (.iconst 1, 1) := by decide +kernel
theorem dX8_comes_73 : decode cX8_comes 73 = .ok (.iadd, 1) := by decide +kernel
theorem dX8_comes_74 : decode cX8_comes 74 = .ok (.iload_n 1, 1) := by decide +kernel
theorem dX8_comes_75 : decode cX8_comes 75 = .ok (.iastore, 1) := by decide +kernel
theorem dX8_comes_76 : decode cX8_comes 76 = .ok (.aload_n 0, 1) := by decide +kernel
theorem dX8_comes_77 : decode cX8_comes 77 = .ok (.getfield 7, 3) := by decide +kernel
theorem dX8_comes_80 : decode cX8_comes 80 = .ok (.bipush 8, 2) := by decide +kernel
theorem dX8_comes_82 : decode cX8_comes 82 = .ok (.dup2, 1) := by decide +kernel
theorem dX8_comes_83 : decode cX8_comes 83 = .ok (.iaload, 1) := by decide +kernel
theorem dX8_comes_84 : decode cX8_comes 84 = .ok (.iconst 1, 1) := by decide +kernel
theorem dX8_comes_85 : decode cX8_comes 85 = .ok (.iadd, 1) := by decide +kernel
theorem dX8_comes_86 : decode cX8_comes 86 = .ok (.iastore, 1) := by decide +kernel
theorem dX8_comes_87 : decode cX8_comes 87 = .ok (.aload_n 0, 1) := by decide +kernel
theorem dX8_comes_88 : decode cX8_comes 88 = .ok (.getfield 7, 3) := by decide +kernel
theorem dX8_comes_91 : decode cX8_comes 91 = .ok (.bipush 33, 2) := by decide +kernel
theorem dX8_comes_93 : decode cX8_comes 93 = .ok (.dup2, 1) := by decide +kernel
theorem dX8_comes_94 : decode cX8_comes 94 = .ok (.iaload, 1) := by decide +kernel
theorem dX8_comes_95 : decode cX8_comes 95 = .ok (.iconst 1, 1) := by decide +kernel
theorem dX8_comes_96 : decode cX8_comes 96 = .ok (.iadd, 1) := by decide +kernel
theorem dX8_comes_97 : decode cX8_comes 97 = .ok (.iastore, 1) := by decide +kernel
theorem dX8_comes_98 : decode cX8_comes 98 = .ok (.aload_n 0, 1) := by decide +kernel
theorem dX8_comes_99 : decode cX8_comes 99 = .ok (.getfield 7, 3) := by decide +kernel
theorem dX8_comes_102 : decode cX8_comes 102 = .ok (.bipush 52, 2) := by decide +kernel
theorem dX8_comes_104 : decode cX8_comes 104 = .ok (.dup2, 1) := by decide +kernel
theorem dX8_comes_105 : decode cX8_comes 105 = .ok (.iaload, 1) := by decide +kernel
theorem dX8_comes_106 : decode cX8_comes 106 = .ok (.iload_n 2, 1) := by decide +kernel
theorem dX8_comes_107 : decode cX8_comes 107 = .ok (.iadd, 1) := by decide +kernel
theorem dX8_comes_108 : decode cX8_comes 108 = .ok (.iastore, 1) := by decide +kernel
theorem dX8_comes_109 : decode cX8_comes 109 = .ok (.aload_n 0, 1) := by decide +kernel
theorem dX8_comes_110 : decode cX8_comes 110 = .ok (.getfield 7, 3) := by decide +kernel
theorem dX8_comes_113 : decode cX8_comes 113 = .ok (.bipush 56, 2) := by decide +kernel
theorem dX8_comes_115 : decode cX8_comes 115 = .ok (.dup2, 1) := by decide +kernel
theorem dX8_comes_116 : decode cX8_comes 116 = .ok (.iaload, 1) := by decide +kernel
theorem dX8_comes_117 : decode cX8_comes 117 = .ok (.iload_n 3, 1) := by decide +kernel
theorem dX8_comes_118 : decode cX8_comes 118 = .ok (.iadd, 1) := by decide +kernel
theorem dX8_comes_119 : decode cX8_comes 119 = .ok (.iastore, 1) := by decide +kernel
theorem dX8_comes_120 : decode cX8_comes 120 = .ok (.aload_n 0, 1) := by decide +kernel
theorem dX8_comes_121 : decode cX8_comes 121 = .ok (.getfield 7, 3) := by decide +kernel
theorem dX8_comes_124 : decode cX8_comes 124 = .ok (.bipush 53, 2) := by decide +kernel
theorem dX8_comes_126 : decode cX8_comes 126 = .ok (.dup2, 1) := by decide +kernel
theorem dX8_comes_127 : decode cX8_comes 127 = .ok (.iaload, 1) := by decide +kernel
theorem dX8_comes_128 : decode cX8_comes 128 = .ok (.iload_n 2, 1) := by decide +kernel
theorem dX8_comes_129 : decode cX8_comes 129 = .ok (.iload_n 1, 1) := by decide +kernel
theorem dX8_comes_130 : decode cX8_comes 130 = .ok (.invokestatic 79, 3) := by decide +kernel
theorem dX8_comes_133 : decode cX8_comes 133 = .ok (.isub, 1) := by decide +kernel
theorem dX8_comes_134 : decode cX8_comes 134 = .ok (.iadd, 1) := by decide +kernel
theorem dX8_comes_135 : decode cX8_comes 135 = .ok (.iastore, 1) := by decide +kernel
theorem dX8_comes_136 : decode cX8_comes 136 = .ok (.iload 4, 2) := by decide +kernel
theorem dX8_comes_138 : decode cX8_comes 138 = .ok (.ireturn, 1) := by decide +kernel
theorem dX8_pours_0 : decode cX8_pours 0 = .ok (.aload_n 0, 1) := by decide +kernel
theorem dX8_pours_1 : decode cX8_pours 1 = .ok (.iload_n 1, 1) := by decide +kernel
theorem dX8_pours_2 : decode cX8_pours 2 = .ok (.invokevirtual 82, 3) := by decide +kernel
theorem dX8_pours_5 : decode cX8_pours 5 = .ok (.istore_n 3, 1) := by decide +kernel
theorem dX8_pours_6 : decode cX8_pours 6 = .ok (.aload_n 0, 1) := by decide +kernel
theorem dX8_pours_7 : decode cX8_pours 7 = .ok (.iload_n 2, 1) := by decide +kernel
theorem dX8_pours_8 : decode cX8_pours 8 = .ok (.invokevirtual 82, 3) := by decide +kernel
theorem dX8_pours_11 : decode cX8_pours 11 = .ok (.istore 4, 2) := by decide +kernel
theorem dX8_pours_13 : decode cX8_pours 13 = .ok (.iload_n 3, 1) := by decide +kernel
theorem dX8_pours_14 : decode cX8_pours 14 = .ok (.bipush (-5), 2) := by decide +kernel
theorem dX8_pours_16 : decode cX8_pours 16 = .ok (.if_icmp .eq 10, 3) := by decide +kernel
theorem dX8_pours_19 : decode cX8_pours 19 = .ok (.iload 4, 2) := by decide +kernel
theorem dX8_pours_21 : decode cX8_pours 21 = .ok (.bipush (-5), 2) := by decide +kernel
theorem dX8_pours_23 : decode cX8_pours 23 = .ok (.if_icmp .ne 5, 3) := by decide +kernel
theorem dX8_pours_26 : decode cX8_pours 26 = .ok (.iconst (-1), 1) := by decide +kernel
theorem dX8_pours_27 : decode cX8_pours 27 = .ok (.ireturn, 1) := by decide +kernel
theorem dX8_pours_28 : decode cX8_pours 28 = .ok (.iload_n 3, 1) := by decide +kernel
theorem dX8_pours_29 : decode cX8_pours 29 = .ok (.iload 4, 2) := by decide +kernel
theorem dX8_pours_31 : decode cX8_pours 31 = .ok (.if_icmp .ne 6, 3) := by decide +kernel
theorem dX8_pours_34 : decode cX8_pours 34 = .ok (.bipush (-2), 2) := by decide +kernel
theorem dX8_pours_36 : decode cX8_pours 36 = .ok (.ireturn, 1) := by decide +kernel
theorem dX8_pours_37 : decode cX8_pours 37 = .ok (.aload_n 0, 1) := by decide +kernel
theorem dX8_pours_38 : decode cX8_pours 38 = .ok (.iload_n 3, 1) := by decide +kernel
theorem dX8_pours_39 : decode cX8_pours 39 = .ok (.invokevirtual 76, 3) := by decide +kernel
theorem dX8_pours_42 : decode cX8_pours 42 = .ok (.ifCond .ne 6, 3) := by decide +kernel
theorem dX8_pours_45 : decode cX8_pours 45 = .ok (.bipush (-5), 2) := by decide +kernel
theorem dX8_pours_47 : decode cX8_pours 47 = .ok (.ireturn, 1) := by decide +kernel
theorem dX8_pours_48 : decode cX8_pours 48 = .ok (.aload_n 0, 1) := by decide +kernel
theorem dX8_pours_49 : decode cX8_pours 49 = .ok (.iload_n 3, 1) := by decide +kernel
theorem dX8_pours_50 : decode cX8_pours 50 = .ok (.invokevirtual 76, 3) := by decide +kernel
theorem dX8_pours_53 : decode cX8_pours 53 = .ok (.aload_n 0, 1) := by decide +kernel
theorem dX8_pours_54 : decode cX8_pours 54 = .ok (.iload 4, 2) := by decide +kernel
theorem dX8_pours_56 : decode cX8_pours 56 = .ok (.invokevirtual 76, 3) := by decide +kernel
theorem dX8_pours_59 : decode cX8_pours 59 = .ok (.invokestatic 53, 3) := by decide +kernel
theorem dX8_pours_62 : decode cX8_pours 62 = .ok (.istore 5, 2) := by decide +kernel
theorem dX8_pours_64 : decode cX8_pours 64 = .ok (.aload_n 0, 1) := by decide +kernel
theorem dX8_pours_65 : decode cX8_pours 65 = .ok (.iload_n 3, 1) := by decide +kernel
theorem dX8_pours_66 : decode cX8_pours 66 = .ok (.invokevirtual 76, 3) := by decide +kernel
theorem dX8_pours_69 : decode cX8_pours 69 = .ok (.invokestatic 79, 3) := by decide +kernel
theorem dX8_pours_72 : decode cX8_pours 72 = .ok (.aload_n 0, 1) := by decide +kernel
theorem dX8_pours_73 : decode cX8_pours 73 = .ok (.iload 4, 2) := by decide +kernel
theorem dX8_pours_75 : decode cX8_pours 75 = .ok (.invokevirtual 76, 3) := by decide +kernel
theorem dX8_pours_78 : decode cX8_pours 78 = .ok (.invokestatic 79, 3) := by decide +kernel
theorem dX8_pours_81 : decode cX8_pours 81 = .ok (.iadd, 1) := by decide +kernel
theorem dX8_pours_82 : decode cX8_pours 82 = .ok (.iload 5, 2) := by decide +kernel
theorem dX8_pours_84 : decode cX8_pours 84 = .ok (.invokestatic 79, 3) := by decide +kernel
theorem dX8_pours_87 : decode cX8_pours 87 = .ok (.isub, 1) := by decide +kernel
theorem dX8_pours_88 : decode cX8_pours 88 = .ok (.istore 6, 2) := by decide +kernel
theorem dX8_pours_90 : decode cX8_pours 90 = .ok (.aload_n 0, 1) := by decide +kernel
theorem dX8_pours_91 : decode cX8_pours 91 = .ok (.getfield 7, 3) := by decide +kernel
theorem dX8_pours_94 : decode cX8_pours 94 = .ok (.bipush 9, 2) := by decide +kernel
theorem dX8_pours_96 : decode cX8_pours 96 = .ok (.iconst 2, 1) := by decide +kernel
theorem dX8_pours_97 : decode cX8_pours 97 = .ok (.iload_n 3, 1) := by decide +kernel
theorem dX8_pours_98 : decode cX8_pours 98 = .ok (.imul, 1) := by decide +kernel
theorem dX8_pours_99 : decode cX8_pours 99 = .ok (.iadd, 1) := by decide +kernel
theorem dX8_pours_100 : decode cX8_pours 100 = .ok (.iconst 1, 1) := by decide +kernel
theorem dX8_pours_101 : decode cX8_pours 101 = .ok (.iadd, 1) := by decide +kernel
theorem dX8_pours_102 : decode cX8_pours 102 = .ok (.iconst 0, 1) := by decide +kernel
theorem dX8_pours_103 : decode cX8_pours 103 = .ok (.iastore, 1) := by decide +kernel
theorem dX8_pours_104 : decode cX8_pours 104 = .ok (.aload_n 0, 1) := by decide +kernel
theorem dX8_pours_105 : decode cX8_pours 105 = .ok (.getfield 7, 3) := by decide +kernel
theorem dX8_pours_108 : decode cX8_pours 108 = .ok (.bipush 9, 2) := by decide +kernel
theorem dX8_pours_110 : decode cX8_pours 110 = .ok (.iconst 2, 1) := by decide +kernel
theorem dX8_pours_111 : decode cX8_pours 111 = .ok (.iload 4, 2) := by decide +kernel
theorem dX8_pours_113 : decode cX8_pours 113 = .ok (.imul, 1) := by decide +kernel
theorem dX8_pours_114 : decode cX8_pours 114 = .ok (.iadd, 1) := by decide +kernel
theorem dX8_pours_115 : decode cX8_pours 115 = .ok (.iconst 1, 1) := by decide +kernel
theorem dX8_pours_116 : decode cX8_pours 116 = .ok (.iadd, 1) := by decide +kernel
theorem dX8_pours_117 : decode cX8_pours 117 = .ok (.iload 5, 2) := by decide +kernel
theorem dX8_pours_119 : decode cX8_pours 119 = .ok (.iastore, 1) := by decide +kernel
theorem dX8_pours_120 : decode cX8_pours 120 = .ok (.aload_n 0, 1) := by decide +kernel
theorem dX8_pours_121 : decode cX8_pours 121 = .ok (.getfield 7, 3) := by decide +kernel
theorem dX8_pours_124 : decode cX8_pours 124 = .ok (.bipush 53, 2) := by decide +kernel
theorem dX8_pours_126 : decode cX8_pours 126 = .ok (.dup2, 1) := by decide +kernel
theorem dX8_pours_127 : decode cX8_pours 127 = .ok (.iaload, 1) := by decide +kernel
theorem dX8_pours_128 : decode cX8_pours 128 = .ok (.iload 6, 2) := by decide +kernel
theorem dX8_pours_130 : decode cX8_pours 130 = .ok (.iadd, 1) := by decide +kernel
theorem dX8_pours_131 : decode cX8_pours 131 = .ok (.iastore, 1) := by decide +kernel
theorem dX8_pours_132 : decode cX8_pours 132 = .ok (.iload 6, 2) := by decide +kernel
theorem dX8_pours_134 : decode cX8_pours 134 = .ok (.ireturn, 1) := by decide +kernel
theorem dX8_buysMore_0 : decode cX8_buysMore 0 = .ok (.aload_n 0, 1) := by decide +kernel
theorem dX8_buysMore_1 : decode cX8_buysMore 1 = .ok (.iload_n 1, 1) := by decide +kernel
theorem dX8_buysMore_2 : decode cX8_buysMore 2 = .ok (.invokevirtual 82, 3) := by decide +kernel
theorem dX8_buysMore_5 : decode cX8_buysMore 5 = .ok (.istore_n 2, 1) := by decide +kernel
theorem dX8_buysMore_6 : decode cX8_buysMore 6 = .ok (.iload_n 2, 1) := by decide +kernel
theorem dX8_buysMore_7 : decode cX8_buysMore 7 = .ok (.bipush (-5), 2) := by decide +kernel
theorem dX8_buysMore_9 : decode cX8_buysMore 9 = .ok (.if_icmp .ne 5, 3) := by decide +kernel
theorem dX8_buysMore_12 : decode cX8_buysMore 12 = .ok (.iconst (-1), 1) := by decide +kernel
theorem dX8_buysMore_13 : decode cX8_buysMore 13 = .ok (.ireturn, 1) := by decide +kernel
theorem dX8_buysMore_14 : decode cX8_buysMore 14 = .ok (.aload_n 0, 1) := by decide +kernel
theorem dX8_buysMore_15 : decode cX8_buysMore 15 = .ok (.iload_n 2, 1) := by decide +kernel
theorem dX8_buysMore_16 : decode cX8_buysMore 16 = .ok (.invokevirtual 76, 3) := by decide +kernel
theorem dX8_buysMore_19 : decode cX8_buysMore 19 = .ok (.istore_n 3, 1) := by decide +kernel
theorem dX8_buysMore_20 : decode cX8_buysMore 20 = .ok (.iload_n 3, 1) := by decide +kernel
theorem dX8_buysMore_21 : decode cX8_buysMore 21 = .ok (.ifCond .ne 6, 3) := by decide +kernel
theorem dX8_buysMore_24 : decode cX8_buysMore 24 = .ok (.bipush (-5), 2) := by decide +kernel
theorem dX8_buysMore_26 : decode cX8_buysMore 26 = .ok (.ireturn, 1) := by decide +kernel
theorem dX8_buysMore_27 : decode cX8_buysMore 27 = .ok (.iload_n 3, 1) := by decide +kernel
theorem dX8_buysMore_28 : decode cX8_buysMore 28 = .ok (.iload_n 3, 1) := by decide +kernel
theorem dX8_buysMore_29 : decode cX8_buysMore 29 = .ok (.invokestatic 53, 3) := by decide +kernel
theorem dX8_buysMore_32 : decode cX8_buysMore 32 = .ok (.istore 4, 2) := by decide +kernel
theorem dX8_buysMore_34 : decode cX8_buysMore 34 = .ok (.aload_n 0, 1) := by decide +kernel
theorem dX8_buysMore_35 : decode cX8_buysMore 35 = .ok (.getfield 7, 3) := by decide +kernel
theorem dX8_buysMore_38 : decode cX8_buysMore 38 = .ok (.bipush 9, 2) := by decide +kernel
theorem dX8_buysMore_40 : decode cX8_buysMore 40 = .ok (.iconst 2, 1) := by decide +kernel
theorem dX8_buysMore_41 : decode cX8_buysMore 41 = .ok (.iload_n 2, 1) := by decide +kernel
theorem dX8_buysMore_42 : decode cX8_buysMore 42 = .ok (.imul, 1) := by decide +kernel
theorem dX8_buysMore_43 : decode cX8_buysMore 43 = .ok (.iadd, 1) := by decide +kernel
theorem dX8_buysMore_44 : decode cX8_buysMore 44 = .ok (.iconst 1, 1) := by decide +kernel
theorem dX8_buysMore_45 : decode cX8_buysMore 45 = .ok (.iadd, 1) := by decide +kernel
theorem dX8_buysMore_46 : decode cX8_buysMore 46 = .ok (.iload 4, 2) := by decide +kernel
theorem dX8_buysMore_48 : decode cX8_buysMore 48 = .ok (.iastore, 1) := by decide +kernel
theorem dX8_buysMore_49 : decode cX8_buysMore 49 = .ok (.aload_n 0, 1) := by decide +kernel
theorem dX8_buysMore_50 : decode cX8_buysMore 50 = .ok (.getfield 7, 3) := by decide +kernel
theorem dX8_buysMore_53 : decode cX8_buysMore 53 = .ok (.bipush 52, 2) := by decide +kernel
theorem dX8_buysMore_55 : decode cX8_buysMore 55 = .ok (.dup2, 1) := by decide +kernel
theorem dX8_buysMore_56 : decode cX8_buysMore 56 = .ok (.iaload, 1) := by decide +kernel
theorem dX8_buysMore_57 : decode cX8_buysMore 57 = .ok (.iload_n 3, 1) := by decide +kernel
theorem dX8_buysMore_58 : decode cX8_buysMore 58 = .ok (.invokestatic 79, 3) := by decide +kernel
theorem dX8_buysMore_61 : decode cX8_buysMore 61 = .ok (.iadd, 1) := by decide +kernel
theorem dX8_buysMore_62 : decode cX8_buysMore 62 = .ok (.iastore, 1) := by decide +kernel
theorem dX8_buysMore_63 : decode cX8_buysMore 63 = .ok (.aload_n 0, 1) := by decide +kernel
theorem dX8_buysMore_64 : decode cX8_buysMore 64 = .ok (.getfield 7, 3) := by decide +kernel
theorem dX8_buysMore_67 : decode cX8_buysMore 67 = .ok (.bipush 56, 2) := by decide +kernel
theorem dX8_buysMore_69 : decode cX8_buysMore 69 = .ok (.dup2, 1) := by decide +kernel
theorem dX8_buysMore_70 : decode cX8_buysMore 70 = .ok (.iaload, 1) := by decide +kernel
theorem dX8_buysMore_71 : decode cX8_buysMore 71 = .ok (.aload_n 0, 1) := by decide +kernel
theorem dX8_buysMore_72 : decode cX8_buysMore 72 = .ok (.iload_n 3, 1) := by decide +kernel
theorem dX8_buysMore_73 : decode cX8_buysMore 73 = .ok (.invokevirtual 70, 3) := by decide +kernel
theorem dX8_buysMore_76 : decode cX8_buysMore 76 = .ok (.iadd, 1) := by decide +kernel
theorem dX8_buysMore_77 : decode cX8_buysMore 77 = .ok (.iastore, 1) := by decide +kernel
theorem dX8_buysMore_78 : decode cX8_buysMore 78 = .ok (.aload_n 0, 1) := by decide +kernel
theorem dX8_buysMore_79 : decode cX8_buysMore 79 = .ok (.getfield 7, 3) := by decide +kernel
theorem dX8_buysMore_82 : decode cX8_buysMore 82 = .ok (.bipush 53, 2) := by decide +kernel
theorem dX8_buysMore_84 : decode cX8_buysMore 84 = .ok (.dup2, 1) := by decide +kernel
theorem dX8_buysMore_85 : decode cX8_buysMore 85 = .ok (.iaload, 1) := by decide +kernel
theorem dX8_buysMore_86 : decode cX8_buysMore 86 = .ok (.iconst 2, 1) := by decide +kernel
theorem dX8_buysMore_87 : decode cX8_buysMore 87 = .ok (.iload_n 3, 1) := by decide +kernel
theorem dX8_buysMore_88 : decode cX8_buysMore 88 = .ok (.invokestatic 79, 3) := by decide +kernel
theorem dX8_buysMore_91 : decode cX8_buysMore 91 = .ok (.imul, 1) := by decide +kernel
theorem dX8_buysMore_92 : decode cX8_buysMore 92 = .ok (.iload 4, 2) := by decide +kernel
theorem dX8_buysMore_94 : decode cX8_buysMore 94 = .ok (.invokestatic 79, 3) := by decide +kernel
theorem dX8_buysMore_97 : decode cX8_buysMore 97 = .ok (.isub, 1) := by decide +kernel
theorem dX8_buysMore_98 : decode cX8_buysMore 98 = .ok (.iadd, 1) := by decide +kernel
theorem dX8_buysMore_99 : decode cX8_buysMore 99 = .ok (.iastore, 1) := by decide +kernel
theorem dX8_buysMore_100 : decode cX8_buysMore 100 = .ok (.iload 4, 2) := by decide +kernel
theorem dX8_buysMore_102 : decode cX8_buysMore 102 = .ok (.ireturn, 1) := by decide +kernel
theorem dX8_rules_0 : decode cX8_rules 0 = .ok (.aload_n 0, 1) := by decide +kernel
theorem dX8_rules_1 : decode cX8_rules 1 = .ok (.getfield 7, 3) := by decide +kernel
theorem dX8_rules_4 : decode cX8_rules 4 = .ok (.bipush 34, 2) := by decide +kernel
theorem dX8_rules_6 : decode cX8_rules 6 = .ok (.iaload, 1) := by decide +kernel
theorem dX8_rules_7 : decode cX8_rules 7 = .ok (.bipush 8, 2) := by decide +kernel
theorem dX8_rules_9 : decode cX8_rules 9 = .ok (.if_icmp .ne 6, 3) := by decide +kernel
theorem dX8_rules_12 : decode cX8_rules 12 = .ok (.bipush (-3), 2) := by decide +kernel
theorem dX8_rules_14 : decode cX8_rules 14 = .ok (.ireturn, 1) := by decide +kernel
theorem dX8_rules_15 : decode cX8_rules 15 = .ok (.aload_n 0, 1) := by decide +kernel
theorem dX8_rules_16 : decode cX8_rules 16 = .ok (.getfield 7, 3) := by decide +kernel
theorem dX8_rules_19 : decode cX8_rules 19 = .ok (.bipush 35, 2) := by decide +kernel
theorem dX8_rules_21 : decode cX8_rules 21 = .ok (.aload_n 0, 1) := by decide +kernel
theorem dX8_rules_22 : decode cX8_rules 22 = .ok (.getfield 7, 3) := by decide +kernel
theorem dX8_rules_25 : decode cX8_rules 25 = .ok (.bipush 34, 2) := by decide +kernel
theorem dX8_rules_27 : decode cX8_rules 27 = .ok (.iaload, 1) := by decide +kernel
theorem dX8_rules_28 : decode cX8_rules 28 = .ok (.iadd, 1) := by decide +kernel
theorem dX8_rules_29 : decode cX8_rules 29 = .ok (.iload_n 1, 1) := by decide +kernel
theorem dX8_rules_30 : decode cX8_rules 30 = .ok (.iastore, 1) := by decide +kernel
theorem dX8_rules_31 : decode cX8_rules 31 = .ok (.aload_n 0, 1) := by decide +kernel
theorem dX8_rules_32 : decode cX8_rules 32 = .ok (.getfield 7, 3) := by decide +kernel
theorem dX8_rules_35 : decode cX8_rules 35 = .ok (.bipush 34, 2) := by decide +kernel
theorem dX8_rules_37 : decode cX8_rules 37 = .ok (.dup2, 1) := by decide +kernel
theorem dX8_rules_38 : decode cX8_rules 38 = .ok (.iaload, 1) := by decide +kernel
theorem dX8_rules_39 : decode cX8_rules 39 = .ok (.iconst 1, 1) := by decide +kernel
theorem dX8_rules_40 : decode cX8_rules 40 = .ok (.iadd, 1) := by decide +kernel
theorem dX8_rules_41 : decode cX8_rules 41 = .ok (.iastore, 1) := by decide +kernel
theorem dX8_rules_42 : decode cX8_rules 42 = .ok (.iconst 0, 1) := by decide +kernel
theorem dX8_rules_43 : decode cX8_rules 43 = .ok (.ireturn, 1) := by decide +kernel
theorem dX8_drops_0 : decode cX8_drops 0 = .ok (.iload_n 1, 1) := by decide +kernel
theorem dX8_drops_1 : decode cX8_drops 1 = .ok (.iconst 0, 1) := by decide +kernel
theorem dX8_drops_2 : decode cX8_drops 2 = .ok (.aload_n 0, 1) := by decide +kernel
theorem dX8_drops_3 : decode cX8_drops 3 = .ok (.getfield 7, 3) := by decide +kernel
theorem dX8_drops_6 : decode cX8_drops 6 = .ok (.bipush 34, 2) := by decide +kernel
theorem dX8_drops_8 : decode cX8_drops 8 = .ok (.iaload, 1) := by decide +kernel
theorem dX8_drops_9 : decode cX8_drops 9 = .ok (.iconst 1, 1) := by decide +kernel
theorem dX8_drops_10 : decode cX8_drops 10 = .ok (.isub, 1) := by decide +kernel
theorem dX8_drops_11 : decode cX8_drops 11 = .ok (.invokestatic 41, 3) := by decide +kernel
theorem dX8_drops_14 : decode cX8_drops 14 = .ok (.ifCond .ne 5, 3) := by decide +kernel
theorem dX8_drops_17 : decode cX8_drops 17 = .ok (.iconst (-1), 1) := by decide +kernel
theorem dX8_drops_18 : decode cX8_drops 18 = .ok (.ireturn, 1) := by decide +kernel
theorem dX8_drops_19 : decode cX8_drops 19 = .ok (.aload_n 0, 1) := by decide +kernel
theorem dX8_drops_20 : decode cX8_drops 20 = .ok (.getfield 7, 3) := by decide +kernel
theorem dX8_drops_23 : decode cX8_drops 23 = .ok (.bipush 34, 2) := by decide +kernel
theorem dX8_drops_25 : decode cX8_drops 25 = .ok (.dup2, 1) := by decide +kernel
theorem dX8_drops_26 : decode cX8_drops 26 = .ok (.iaload, 1) := by decide +kernel
theorem dX8_drops_27 : decode cX8_drops 27 = .ok (.iconst 1, 1) := by decide +kernel
theorem dX8_drops_28 : decode cX8_drops 28 = .ok (.isub, 1) := by decide +kernel
theorem dX8_drops_29 : decode cX8_drops 29 = .ok (.iastore, 1) := by decide +kernel
theorem dX8_drops_30 : decode cX8_drops 30 = .ok (.iload_n 1, 1) := by decide +kernel
theorem dX8_drops_31 : decode cX8_drops 31 = .ok (.istore_n 2, 1) := by decide +kernel
theorem dX8_drops_32 : decode cX8_drops 32 = .ok (.iload_n 2, 1) := by decide +kernel
theorem dX8_drops_33 : decode cX8_drops 33 = .ok (.aload_n 0, 1) := by decide +kernel
theorem dX8_drops_34 : decode cX8_drops 34 = .ok (.getfield 7, 3) := by decide +kernel
theorem dX8_drops_37 : decode cX8_drops 37 = .ok (.bipush 34, 2) := by decide +kernel
theorem dX8_drops_39 : decode cX8_drops 39 = .ok (.iaload, 1) := by decide +kernel
theorem dX8_drops_40 : decode cX8_drops 40 = .ok (.if_icmp .ge 29, 3) := by decide +kernel
theorem dX8_drops_43 : decode cX8_drops 43 = .ok (.aload_n 0, 1) := by decide +kernel
theorem dX8_drops_44 : decode cX8_drops 44 = .ok (.getfield 7, 3) := by decide +kernel
theorem dX8_drops_47 : decode cX8_drops 47 = .ok (.bipush 35, 2) := by decide +kernel
theorem dX8_drops_49 : decode cX8_drops 49 = .ok (.iload_n 2, 1) := by decide +kernel
theorem dX8_drops_50 : decode cX8_drops 50 = .ok (.iadd, 1) := by decide +kernel
theorem dX8_drops_51 : decode cX8_drops 51 = .ok (.aload_n 0, 1) := by decide +kernel
theorem dX8_drops_52 : decode cX8_drops 52 = .ok (.getfield 7, 3) := by decide +kernel
theorem dX8_drops_55 : decode cX8_drops 55 = .ok (.bipush 35, 2) := by decide +kernel
theorem dX8_drops_57 : decode cX8_drops 57 = .ok (.iload_n 2, 1) := by decide +kernel
theorem dX8_drops_58 : decode cX8_drops 58 = .ok (.iadd, 1) := by decide +kernel
theorem dX8_drops_59 : decode cX8_drops 59 = .ok (.iconst 1, 1) := by decide +kernel
theorem dX8_drops_60 : decode cX8_drops 60 = .ok (.iadd, 1) := by decide +kernel
theorem dX8_drops_61 : decode cX8_drops 61 = .ok (.iaload, 1) := by decide +kernel
theorem dX8_drops_62 : decode cX8_drops 62 = .ok (.iastore, 1) := by decide +kernel
theorem dX8_drops_63 : decode cX8_drops 63 = .ok (.iinc 2 1, 3) := by decide +kernel
theorem dX8_drops_66 : decode cX8_drops 66 = .ok (.goto (-34), 3) := by decide +kernel
theorem dX8_drops_69 : decode cX8_drops 69 = .ok (.aload_n 0, 1) := by decide +kernel
theorem dX8_drops_70 : decode cX8_drops 70 = .ok (.getfield 7, 3) := by decide +kernel
theorem dX8_drops_73 : decode cX8_drops 73 = .ok (.bipush 35, 2) := by decide +kernel
theorem dX8_drops_75 : decode cX8_drops 75 = .ok (.aload_n 0, 1) := by decide +kernel
theorem dX8_drops_76 : decode cX8_drops 76 = .ok (.getfield 7, 3) := by decide +kernel
theorem dX8_drops_79 : decode cX8_drops 79 = .ok (.bipush 34, 2) := by decide +kernel
theorem dX8_drops_81 : decode cX8_drops 81 = .ok (.iaload, 1) := by decide +kernel
theorem dX8_drops_82 : decode cX8_drops 82 = .ok (.iadd, 1) := by decide +kernel
theorem dX8_drops_83 : decode cX8_drops 83 = .ok (.iconst 0, 1) := by decide +kernel
theorem dX8_drops_84 : decode cX8_drops 84 = .ok (.iastore, 1) := by decide +kernel
theorem dX8_drops_85 : decode cX8_drops 85 = .ok (.iconst 0, 1) := by decide +kernel
theorem dX8_drops_86 : decode cX8_drops 86 = .ok (.ireturn, 1) := by decide +kernel
theorem dX8_wants_0 : decode cX8_wants 0 = .ok (.aload_n 0, 1) := by decide +kernel
theorem dX8_wants_1 : decode cX8_wants 1 = .ok (.getfield 7, 3) := by decide +kernel
theorem dX8_wants_4 : decode cX8_wants 4 = .ok (.bipush 43, 2) := by decide +kernel
theorem dX8_wants_6 : decode cX8_wants 6 = .ok (.iaload, 1) := by decide +kernel
theorem dX8_wants_7 : decode cX8_wants 7 = .ok (.bipush 8, 2) := by decide +kernel
theorem dX8_wants_9 : decode cX8_wants 9 = .ok (.if_icmp .ne 6, 3) := by decide +kernel
theorem dX8_wants_12 : decode cX8_wants 12 = .ok (.bipush (-3), 2) := by decide +kernel
theorem dX8_wants_14 : decode cX8_wants 14 = .ok (.ireturn, 1) := by decide +kernel
theorem dX8_wants_15 : decode cX8_wants 15 = .ok (.aload_n 0, 1) := by decide +kernel
theorem dX8_wants_16 : decode cX8_wants 16 = .ok (.getfield 7, 3) := by decide +kernel
theorem dX8_wants_19 : decode cX8_wants 19 = .ok (.bipush 44, 2) := by decide +kernel
theorem dX8_wants_21 : decode cX8_wants 21 = .ok (.aload_n 0, 1) := by decide +kernel
theorem dX8_wants_22 : decode cX8_wants 22 = .ok (.getfield 7, 3) := by decide +kernel
theorem dX8_wants_25 : decode cX8_wants 25 = .ok (.bipush 43, 2) := by decide +kernel
theorem dX8_wants_27 : decode cX8_wants 27 = .ok (.iaload, 1) := by decide +kernel
theorem dX8_wants_28 : decode cX8_wants 28 = .ok (.iadd, 1) := by decide +kernel
theorem dX8_wants_29 : decode cX8_wants 29 = .ok (.iload_n 1, 1) := by decide +kernel
theorem dX8_wants_30 : decode cX8_wants 30 = .ok (.iastore, 1) := by decide +kernel
theorem dX8_wants_31 : decode cX8_wants 31 = .ok (.aload_n 0, 1) := by decide +kernel
theorem dX8_wants_32 : decode cX8_wants 32 = .ok (.getfield 7, 3) := by decide +kernel
theorem dX8_wants_35 : decode cX8_wants 35 = .ok (.bipush 43, 2) := by decide +kernel
theorem dX8_wants_37 : decode cX8_wants 37 = .ok (.dup2, 1) := by decide +kernel
theorem dX8_wants_38 : decode cX8_wants 38 = .ok (.iaload, 1) := by decide +kernel
theorem dX8_wants_39 : decode cX8_wants 39 = .ok (.iconst 1, 1) := by decide +kernel
theorem dX8_wants_40 : decode cX8_wants 40 = .ok (.iadd, 1) := by decide +kernel
theorem dX8_wants_41 : decode cX8_wants 41 = .ok (.iastore, 1) := by decide +kernel
theorem dX8_wants_42 : decode cX8_wants 42 = .ok (.aload_n 0, 1) := by decide +kernel
theorem dX8_wants_43 : decode cX8_wants 43 = .ok (.getfield 7, 3) := by decide +kernel
theorem dX8_wants_46 : decode cX8_wants 46 = .ok (.bipush 43, 2) := by decide +kernel
theorem dX8_wants_48 : decode cX8_wants 48 = .ok (.iaload, 1) := by decide +kernel
theorem dX8_wants_49 : decode cX8_wants 49 = .ok (.ireturn, 1) := by decide +kernel
theorem dX8_serves_0 : decode cX8_serves 0 = .ok (.aload_n 0, 1) := by decide +kernel
theorem dX8_serves_1 : decode cX8_serves 1 = .ok (.getfield 7, 3) := by decide +kernel
theorem dX8_serves_4 : decode cX8_serves 4 = .ok (.bipush 43, 2) := by decide +kernel
theorem dX8_serves_6 : decode cX8_serves 6 = .ok (.iaload, 1) := by decide +kernel
theorem dX8_serves_7 : decode cX8_serves 7 = .ok (.ifCond .ne 6, 3) := by decide +kernel
theorem dX8_serves_10 : decode cX8_serves 10 = .ok (.bipush (-5), 2) := by decide +kernel
theorem dX8_serves_12 : decode cX8_serves 12 = .ok (.ireturn, 1) := by decide +kernel
theorem dX8_serves_13 : decode cX8_serves 13 = .ok (.aload_n 0, 1) := by decide +kernel
theorem dX8_serves_14 : decode cX8_serves 14 = .ok (.aload_n 0, 1) := by decide +kernel
theorem dX8_serves_15 : decode cX8_serves 15 = .ok (.getfield 7, 3) := by decide +kernel
theorem dX8_serves_18 : decode cX8_serves 18 = .ok (.bipush 44, 2) := by decide +kernel
theorem dX8_serves_20 : decode cX8_serves 20 = .ok (.iaload, 1) := by decide +kernel
theorem dX8_serves_21 : decode cX8_serves 21 = .ok (.invokevirtual 67, 3) := by decide +kernel
theorem dX8_serves_24 : decode cX8_serves 24 = .ok (.istore_n 1, 1) := by decide +kernel
theorem dX8_serves_25 : decode cX8_serves 25 = .ok (.aload_n 0, 1) := by decide +kernel
theorem dX8_serves_26 : decode cX8_serves 26 = .ok (.getfield 7, 3) := by decide +kernel
theorem dX8_serves_29 : decode cX8_serves 29 = .ok (.bipush 43, 2) := by decide +kernel
theorem dX8_serves_31 : decode cX8_serves 31 = .ok (.dup2, 1) := by decide +kernel
theorem dX8_serves_32 : decode cX8_serves 32 = .ok (.iaload, 1) := by decide +kernel
theorem dX8_serves_33 : decode cX8_serves 33 = .ok (.iconst 1, 1) := by decide +kernel
theorem dX8_serves_34 : decode cX8_serves 34 = .ok (.isub, 1) := by decide +kernel
theorem dX8_serves_35 : decode cX8_serves 35 = .ok (.iastore, 1) := by decide +kernel
theorem dX8_serves_36 : decode cX8_serves 36 = .ok (.iconst 0, 1) := by decide +kernel
theorem dX8_serves_37 : decode cX8_serves 37 = .ok (.istore_n 2, 1) := by decide +kernel
theorem dX8_serves_38 : decode cX8_serves 38 = .ok (.iload_n 2, 1) := by decide +kernel
theorem dX8_serves_39 : decode cX8_serves 39 = .ok (.aload_n 0, 1) := by decide +kernel
theorem dX8_serves_40 : decode cX8_serves 40 = .ok (.getfield 7, 3) := by decide +kernel
theorem dX8_serves_43 : decode cX8_serves 43 = .ok (.bipush 43, 2) := by decide +kernel
theorem dX8_serves_45 : decode cX8_serves 45 = .ok (.iaload, 1) := by decide +kernel
theorem dX8_serves_46 : decode cX8_serves 46 = .ok (.if_icmp .ge 29, 3) := by decide +kernel
theorem dX8_serves_49 : decode cX8_serves 49 = .ok (.aload_n 0, 1) := by decide +kernel
theorem dX8_serves_50 : decode cX8_serves 50 = .ok (.getfield 7, 3) := by decide +kernel
theorem dX8_serves_53 : decode cX8_serves 53 = .ok (.bipush 44, 2) := by decide +kernel
theorem dX8_serves_55 : decode cX8_serves 55 = .ok (.iload_n 2, 1) := by decide +kernel
theorem dX8_serves_56 : decode cX8_serves 56 = .ok (.iadd, 1) := by decide +kernel
theorem dX8_serves_57 : decode cX8_serves 57 = .ok (.aload_n 0, 1) := by decide +kernel
theorem dX8_serves_58 : decode cX8_serves 58 = .ok (.getfield 7, 3) := by decide +kernel
theorem dX8_serves_61 : decode cX8_serves 61 = .ok (.bipush 44, 2) := by decide +kernel
theorem dX8_serves_63 : decode cX8_serves 63 = .ok (.iload_n 2, 1) := by decide +kernel
theorem dX8_serves_64 : decode cX8_serves 64 = .ok (.iadd, 1) := by decide +kernel
theorem dX8_serves_65 : decode cX8_serves 65 = .ok (.iconst 1, 1) := by decide +kernel
theorem dX8_serves_66 : decode cX8_serves 66 = .ok (.iadd, 1) := by decide +kernel
theorem dX8_serves_67 : decode cX8_serves 67 = .ok (.iaload, 1) := by decide +kernel
theorem dX8_serves_68 : decode cX8_serves 68 = .ok (.iastore, 1) := by decide +kernel
theorem dX8_serves_69 : decode cX8_serves 69 = .ok (.iinc 2 1, 3) := by decide +kernel
theorem dX8_serves_72 : decode cX8_serves 72 = .ok (.goto (-34), 3) := by decide +kernel
theorem dX8_serves_75 : decode cX8_serves 75 = .ok (.aload_n 0, 1) := by decide +kernel
theorem dX8_serves_76 : decode cX8_serves 76 = .ok (.getfield 7, 3) := by decide +kernel
theorem dX8_serves_79 : decode cX8_serves 79 = .ok (.bipush 44, 2) := by decide +kernel
theorem dX8_serves_81 : decode cX8_serves 81 = .ok (.aload_n 0, 1) := by decide +kernel
theorem dX8_serves_82 : decode cX8_serves 82 = .ok (.getfield 7, 3) := by decide +kernel
theorem dX8_serves_85 : decode cX8_serves 85 = .ok (.bipush 43, 2) := by decide +kernel
theorem dX8_serves_87 : decode cX8_serves 87 = .ok (.iaload, 1) := by decide +kernel
theorem dX8_serves_88 : decode cX8_serves 88 = .ok (.iadd, 1) := by decide +kernel
theorem dX8_serves_89 : decode cX8_serves 89 = .ok (.iconst 0, 1) := by decide +kernel
theorem dX8_serves_90 : decode cX8_serves 90 = .ok (.iastore, 1) := by decide +kernel
theorem dX8_serves_91 : decode cX8_serves 91 = .ok (.iconst 0, 1) := by decide +kernel
theorem dX8_serves_92 : decode cX8_serves 92 = .ok (.istore_n 2, 1) := by decide +kernel
theorem dX8_serves_93 : decode cX8_serves 93 = .ok (.iload_n 2, 1) := by decide +kernel
theorem dX8_serves_94 : decode cX8_serves 94 = .ok (.aload_n 0, 1) := by decide +kernel
theorem dX8_serves_95 : decode cX8_serves 95 = .ok (.getfield 7, 3) := by decide +kernel
theorem dX8_serves_98 : decode cX8_serves 98 = .ok (.bipush 8, 2) := by decide +kernel
theorem dX8_serves_100 : decode cX8_serves 100 = .ok (.iaload, 1) := by decide +kernel
theorem dX8_serves_101 : decode cX8_serves 101 = .ok (.if_icmp .ge 84, 3) := by decide +kernel
theorem dX8_serves_104 : decode cX8_serves 104 = .ok (.aload_n 0, 1) := by decide +kernel
theorem dX8_serves_105 : decode cX8_serves 105 = .ok (.iload_n 2, 1) := by decide +kernel
theorem dX8_serves_106 : decode cX8_serves 106 = .ok (.invokevirtual 76, 3) := by decide +kernel
theorem dX8_serves_109 : decode cX8_serves 109 = .ok (.istore_n 3, 1) := by decide +kernel
theorem dX8_serves_110 : decode cX8_serves 110 = .ok (.aload_n 0, 1) := by decide +kernel
theorem dX8_serves_111 : decode cX8_serves 111 = .ok (.iload_n 3, 1) := by decide +kernel
theorem dX8_serves_112 : decode cX8_serves 112 = .ok (.invokevirtual 67, 3) := by decide +kernel
theorem dX8_serves_115 : decode cX8_serves 115 = .ok (.iload_n 1, 1) := by decide +kernel
theorem dX8_serves_116 : decode cX8_serves 116 = .ok (.if_icmp .ne 63, 3) := by decide +kernel
theorem dX8_serves_119 : decode cX8_serves 119 = .ok (.aload_n 0, 1) := by decide +kernel
theorem dX8_serves_120 : decode cX8_serves 120 = .ok (.iload_n 3, 1) := by decide +kernel
theorem dX8_serves_121 : decode cX8_serves 121 = .ok (.invokevirtual 70, 3) := by decide +kernel
theorem dX8_serves_124 : decode cX8_serves 124 = .ok (.aload_n 0, 1) := by decide +kernel
theorem dX8_serves_125 : decode cX8_serves 125 = .ok (.iload_n 3, 1) := by decide +kernel
theorem dX8_serves_126 : decode cX8_serves 126 = .ok (.invokevirtual 70, 3) := by decide +kernel
theorem dX8_serves_129 : decode cX8_serves 129 = .ok (.iconst 2, 1) := by decide +kernel
theorem dX8_serves_130 : decode cX8_serves 130 = .ok (.idiv, 1) := by decide +kernel
theorem dX8_serves_131 : decode cX8_serves 131 = .ok (.iadd, 1) := by decide +kernel
theorem dX8_serves_132 : decode cX8_serves 132 = .ok (.istore 4, 2) := by decide +kernel
theorem dX8_serves_134 : decode cX8_serves 134 = .ok (.aload_n 0, 1) := by decide +kernel
theorem dX8_serves_135 : decode cX8_serves 135 = .ok (.getfield 7, 3) := by decide +kernel
theorem dX8_serves_138 : decode cX8_serves 138 = .ok (.bipush 54, 2) := by decide +kernel
theorem dX8_serves_140 : decode cX8_serves 140 = .ok (.dup2, 1) := by decide +kernel
theorem dX8_serves_141 : decode cX8_serves 141 = .ok (.iaload, 1) := by decide +kernel
theorem dX8_serves_142 : decode cX8_serves 142 = .ok (.iload_n 3, 1) := by decide +kernel
theorem dX8_serves_143 : decode cX8_serves 143 = .ok (.invokestatic 79, 3) := by decide +kernel
theorem dX8_serves_146 : decode cX8_serves 146 = .ok (.iadd, 1) := by decide +kernel
theorem dX8_serves_147 : decode cX8_serves 147 = .ok (.iastore, 1) := by decide +kernel
theorem dX8_serves_148 : decode cX8_serves 148 = .ok (.aload_n 0, 1) := by decide +kernel
theorem dX8_serves_149 : decode cX8_serves 149 = .ok (.getfield 7, 3) := by decide +kernel
theorem dX8_serves_152 : decode cX8_serves 152 = .ok (.bipush 57, 2) := by decide +kernel
theorem dX8_serves_154 : decode cX8_serves 154 = .ok (.dup2, 1) := by decide +kernel
theorem dX8_serves_155 : decode cX8_serves 155 = .ok (.iaload, 1) := by decide +kernel
theorem dX8_serves_156 : decode cX8_serves 156 = .ok (.iload 4, 2) := by decide +kernel
theorem dX8_serves_158 : decode cX8_serves 158 = .ok (.iadd, 1) := by decide +kernel
theorem dX8_serves_159 : decode cX8_serves 159 = .ok (.iastore, 1) := by decide +kernel
theorem dX8_serves_160 : decode cX8_serves 160 = .ok (.aload_n 0, 1) := by decide +kernel
theorem dX8_serves_161 : decode cX8_serves 161 = .ok (.getfield 7, 3) := by decide +kernel
theorem dX8_serves_164 : decode cX8_serves 164 = .ok (.bipush 58, 2) := by decide +kernel
theorem dX8_serves_166 : decode cX8_serves 166 = .ok (.dup2, 1) := by decide +kernel
theorem dX8_serves_167 : decode cX8_serves 167 = .ok (.iaload, 1) := by decide +kernel
theorem dX8_serves_168 : decode cX8_serves 168 = .ok (.iconst 1, 1) := by decide +kernel
theorem dX8_serves_169 : decode cX8_serves 169 = .ok (.iadd, 1) := by decide +kernel
theorem dX8_serves_170 : decode cX8_serves 170 = .ok (.iastore, 1) := by decide +kernel
theorem dX8_serves_171 : decode cX8_serves 171 = .ok (.aload_n 0, 1) := by decide +kernel
theorem dX8_serves_172 : decode cX8_serves 172 = .ok (.iload_n 2, 1) := by decide +kernel
theorem dX8_serves_173 : decode cX8_serves 173 = .ok (.invokevirtual 85, 3) := by decide +kernel
theorem dX8_serves_176 : decode cX8_serves 176 = .ok (.iload 4, 2) := by decide +kernel
theorem dX8_serves_178 : decode cX8_serves 178 = .ok (.ireturn, 1) := by decide +kernel
theorem dX8_serves_179 : decode cX8_serves 179 = .ok (.iinc 2 1, 3) := by decide +kernel
theorem dX8_serves_182 : decode cX8_serves 182 = .ok (.goto (-89), 3) := by decide +kernel
theorem dX8_serves_185 : decode cX8_serves 185 = .ok (.aload_n 0, 1) := by decide +kernel
theorem dX8_serves_186 : decode cX8_serves 186 = .ok (.getfield 7, 3) := by decide +kernel
theorem dX8_serves_189 : decode cX8_serves 189 = .ok (.bipush 59, 2) := by decide +kernel
theorem dX8_serves_191 : decode cX8_serves 191 = .ok (.dup2, 1) := by decide +kernel
theorem dX8_serves_192 : decode cX8_serves 192 = .ok (.iaload, 1) := by decide +kernel
theorem dX8_serves_193 : decode cX8_serves 193 = .ok (.iconst 1, 1) := by decide +kernel
theorem dX8_serves_194 : decode cX8_serves 194 = .ok (.iadd, 1) := by decide +kernel
theorem dX8_serves_195 : decode cX8_serves 195 = .ok (.iastore, 1) := by decide +kernel
theorem dX8_serves_196 : decode cX8_serves 196 = .ok (.iconst 0, 1) := by decide +kernel
theorem dX8_serves_197 : decode cX8_serves 197 = .ok (.ireturn, 1) := by decide +kernel
theorem dX8_jar_0 : decode cX8_jar 0 = .ok (.iload_n 1, 1) := by decide +kernel
theorem dX8_jar_1 : decode cX8_jar 1 = .ok (.invokestatic 89, 3) := by decide +kernel
theorem dX8_jar_4 : decode cX8_jar 4 = .ok (.ifCond .ne 6, 3) := by decide +kernel
theorem dX8_jar_7 : decode cX8_jar 7 = .ok (.bipush (-2), 2) := by decide +kernel
theorem dX8_jar_9 : decode cX8_jar 9 = .ok (.ireturn, 1) := by decide +kernel
theorem dX8_jar_10 : decode cX8_jar 10 = .ok (.aload_n 0, 1) := by decide +kernel
theorem dX8_jar_11 : decode cX8_jar 11 = .ok (.invokevirtual 93, 3) := by decide +kernel
theorem dX8_jar_14 : decode cX8_jar 14 = .ok (.aload_n 0, 1) := by decide +kernel
theorem dX8_jar_15 : decode cX8_jar 15 = .ok (.aload_n 0, 1) := by decide +kernel
theorem dX8_jar_16 : decode cX8_jar 16 = .ok (.iload_n 1, 1) := by decide +kernel
theorem dX8_jar_17 : decode cX8_jar 17 = .ok (.iload_n 1, 1) := by decide +kernel
theorem dX8_jar_18 : decode cX8_jar 18 = .ok (.invokestatic 79, 3) := by decide +kernel
theorem dX8_jar_21 : decode cX8_jar 21 = .ok (.aload_n 0, 1) := by decide +kernel
theorem dX8_jar_22 : decode cX8_jar 22 = .ok (.iload_n 1, 1) := by decide +kernel
theorem dX8_jar_23 : decode cX8_jar 23 = .ok (.invokevirtual 70, 3) := by decide +kernel
theorem dX8_jar_26 : decode cX8_jar 26 = .ok (.invokevirtual 96, 3) := by decide +kernel
theorem dX8_jar_29 : decode cX8_jar 29 = .ok (.invokevirtual 100, 3) := by decide +kernel
theorem dX8_jar_32 : decode cX8_jar 32 = .ok (.ireturn, 1) := by decide +kernel
theorem dX8_pour_0 : decode cX8_pour 0 = .ok (.aload_n 0, 1) := by decide +kernel
theorem dX8_pour_1 : decode cX8_pour 1 = .ok (.invokevirtual 93, 3) := by decide +kernel
theorem dX8_pour_4 : decode cX8_pour 4 = .ok (.aload_n 0, 1) := by decide +kernel
theorem dX8_pour_5 : decode cX8_pour 5 = .ok (.aload_n 0, 1) := by decide +kernel
theorem dX8_pour_6 : decode cX8_pour 6 = .ok (.iload_n 1, 1) := by decide +kernel
theorem dX8_pour_7 : decode cX8_pour 7 = .ok (.iload_n 2, 1) := by decide +kernel
theorem dX8_pour_8 : decode cX8_pour 8 = .ok (.invokevirtual 103, 3) := by decide +kernel
theorem dX8_pour_11 : decode cX8_pour 11 = .ok (.invokevirtual 100, 3) := by decide +kernel
theorem dX8_pour_14 : decode cX8_pour 14 = .ok (.ireturn, 1) := by decide +kernel
theorem dX8_more_0 : decode cX8_more 0 = .ok (.aload_n 0, 1) := by decide +kernel
theorem dX8_more_1 : decode cX8_more 1 = .ok (.invokevirtual 93, 3) := by decide +kernel
theorem dX8_more_4 : decode cX8_more 4 = .ok (.aload_n 0, 1) := by decide +kernel
theorem dX8_more_5 : decode cX8_more 5 = .ok (.aload_n 0, 1) := by decide +kernel
theorem dX8_more_6 : decode cX8_more 6 = .ok (.iload_n 1, 1) := by decide +kernel
theorem dX8_more_7 : decode cX8_more 7 = .ok (.invokevirtual 106, 3) := by decide +kernel
theorem dX8_more_10 : decode cX8_more 10 = .ok (.invokevirtual 100, 3) := by decide +kernel
theorem dX8_more_13 : decode cX8_more 13 = .ok (.ireturn, 1) := by decide +kernel
theorem dX8_throwAway_0 : decode cX8_throwAway 0 = .ok (.aload_n 0, 1) := by decide +kernel
theorem dX8_throwAway_1 : decode cX8_throwAway 1 = .ok (.iload_n 1, 1) := by decide +kernel
theorem dX8_throwAway_2 : decode cX8_throwAway 2 = .ok (.invokevirtual 82, 3) := by decide +kernel
theorem dX8_throwAway_5 : decode cX8_throwAway 5 = .ok (.istore_n 2, 1) := by decide +kernel
theorem dX8_throwAway_6 : decode cX8_throwAway 6 = .ok (.iload_n 2, 1) := by decide +kernel
theorem dX8_throwAway_7 : decode cX8_throwAway 7 = .ok (.bipush (-5), 2) := by decide +kernel
theorem dX8_throwAway_9 : decode cX8_throwAway 9 = .ok (.if_icmp .ne 5, 3) := by decide +kernel
theorem dX8_throwAway_12 : decode cX8_throwAway 12 = .ok (.iconst (-1), 1) := by decide +kernel
theorem dX8_throwAway_13 : decode cX8_throwAway 13 = .ok (.ireturn, 1) := by decide +kernel
theorem dX8_throwAway_14 : decode cX8_throwAway 14 = .ok (.aload_n 0, 1) := by decide +kernel
theorem dX8_throwAway_15 : decode cX8_throwAway 15 = .ok (.invokevirtual 93, 3) := by decide +kernel
theorem dX8_throwAway_18 : decode cX8_throwAway 18 = .ok (.aload_n 0, 1) := by decide +kernel
theorem dX8_throwAway_19 : decode cX8_throwAway 19 = .ok (.iload_n 2, 1) := by decide +kernel
theorem dX8_throwAway_20 : decode cX8_throwAway 20 = .ok (.invokevirtual 76, 3) := by decide +kernel
theorem dX8_throwAway_23 : decode cX8_throwAway 23 = .ok (.invokestatic 79, 3) := by decide +kernel
theorem dX8_throwAway_26 : decode cX8_throwAway 26 = .ok (.istore_n 3, 1) := by decide +kernel
theorem dX8_throwAway_27 : decode cX8_throwAway 27 = .ok (.aload_n 0, 1) := by decide +kernel
theorem dX8_throwAway_28 : decode cX8_throwAway 28 = .ok (.getfield 7, 3) := by decide +kernel
theorem dX8_throwAway_31 : decode cX8_throwAway 31 = .ok (.bipush 55, 2) := by decide +kernel
theorem dX8_throwAway_33 : decode cX8_throwAway 33 = .ok (.dup2, 1) := by decide +kernel
theorem dX8_throwAway_34 : decode cX8_throwAway 34 = .ok (.iaload, 1) := by decide +kernel
theorem dX8_throwAway_35 : decode cX8_throwAway 35 = .ok (.iload_n 3, 1) := by decide +kernel
theorem dX8_throwAway_36 : decode cX8_throwAway 36 = .ok (.iadd, 1) := by decide +kernel
theorem dX8_throwAway_37 : decode cX8_throwAway 37 = .ok (.iastore, 1) := by decide +kernel
theorem dX8_throwAway_38 : decode cX8_throwAway 38 = .ok (.aload_n 0, 1) := by decide +kernel
theorem dX8_throwAway_39 : decode cX8_throwAway 39 = .ok (.iload_n 2, 1) := by decide +kernel
theorem dX8_throwAway_40 : decode cX8_throwAway 40 = .ok (.invokevirtual 85, 3) := by decide +kernel
theorem dX8_throwAway_43 : decode cX8_throwAway 43 = .ok (.aload_n 0, 1) := by decide +kernel
theorem dX8_throwAway_44 : decode cX8_throwAway 44 = .ok (.iload_n 3, 1) := by decide +kernel
theorem dX8_throwAway_45 : decode cX8_throwAway 45 = .ok (.invokevirtual 100, 3) := by decide +kernel
theorem dX8_throwAway_48 : decode cX8_throwAway 48 = .ok (.ireturn, 1) := by decide +kernel
theorem dX8_rule_0 : decode cX8_rule 0 = .ok (.iload_n 1, 1) := by decide +kernel
theorem dX8_rule_1 : decode cX8_rule 1 = .ok (.invokestatic 89, 3) := by decide +kernel
theorem dX8_rule_4 : decode cX8_rule 4 = .ok (.ifCond .ne 6, 3) := by decide +kernel
theorem dX8_rule_7 : decode cX8_rule 7 = .ok (.bipush (-2), 2) := by decide +kernel
theorem dX8_rule_9 : decode cX8_rule 9 = .ok (.ireturn, 1) := by decide +kernel
theorem dX8_rule_10 : decode cX8_rule 10 = .ok (.aload_n 0, 1) := by decide +kernel
theorem dX8_rule_11 : decode cX8_rule 11 = .ok (.invokevirtual 93, 3) := by decide +kernel
theorem dX8_rule_14 : decode cX8_rule 14 = .ok (.aload_n 0, 1) := by decide +kernel
theorem dX8_rule_15 : decode cX8_rule 15 = .ok (.aload_n 0, 1) := by decide +kernel
theorem dX8_rule_16 : decode cX8_rule 16 = .ok (.iload_n 1, 1) := by decide +kernel
theorem dX8_rule_17 : decode cX8_rule 17 = .ok (.invokevirtual 109, 3) := by decide +kernel
theorem dX8_rule_20 : decode cX8_rule 20 = .ok (.invokevirtual 100, 3) := by decide +kernel
theorem dX8_rule_23 : decode cX8_rule 23 = .ok (.ifCond .ge 8, 3) := by decide +kernel
theorem dX8_rule_26 : decode cX8_rule 26 = .ok (.bipush (-3), 2) := by decide +kernel
theorem dX8_rule_28 : decode cX8_rule 28 = .ok (.goto 7, 3) := by decide +kernel
theorem dX8_rule_31 : decode cX8_rule 31 = .ok (.aload_n 0, 1) := by decide +kernel
theorem dX8_rule_32 : decode cX8_rule 32 = .ok (.invokevirtual 112, 3) := by decide +kernel
theorem dX8_rule_35 : decode cX8_rule 35 = .ok (.ireturn, 1) := by decide +kernel
theorem dX8_drop_0 : decode cX8_drop 0 = .ok (.aload_n 0, 1) := by decide +kernel
theorem dX8_drop_1 : decode cX8_drop 1 = .ok (.invokevirtual 93, 3) := by decide +kernel
theorem dX8_drop_4 : decode cX8_drop 4 = .ok (.aload_n 0, 1) := by decide +kernel
theorem dX8_drop_5 : decode cX8_drop 5 = .ok (.aload_n 0, 1) := by decide +kernel
theorem dX8_drop_6 : decode cX8_drop 6 = .ok (.iload_n 1, 1) := by decide +kernel
theorem dX8_drop_7 : decode cX8_drop 7 = .ok (.invokevirtual 115, 3) := by decide +kernel
theorem dX8_drop_10 : decode cX8_drop 10 = .ok (.invokevirtual 100, 3) := by decide +kernel
theorem dX8_drop_13 : decode cX8_drop 13 = .ok (.ifCond .ge 7, 3) := by decide +kernel
theorem dX8_drop_16 : decode cX8_drop 16 = .ok (.iconst (-1), 1) := by decide +kernel
theorem dX8_drop_17 : decode cX8_drop 17 = .ok (.goto 7, 3) := by decide +kernel
theorem dX8_drop_20 : decode cX8_drop 20 = .ok (.aload_n 0, 1) := by decide +kernel
theorem dX8_drop_21 : decode cX8_drop 21 = .ok (.invokevirtual 112, 3) := by decide +kernel
theorem dX8_drop_24 : decode cX8_drop 24 = .ok (.ireturn, 1) := by decide +kernel
theorem dX8_price_0 : decode cX8_price 0 = .ok (.iload_n 1, 1) := by decide +kernel
theorem dX8_price_1 : decode cX8_price 1 = .ok (.iconst 0, 1) := by decide +kernel
theorem dX8_price_2 : decode cX8_price 2 = .ok (.bipush 7, 2) := by decide +kernel
theorem dX8_price_4 : decode cX8_price 4 = .ok (.invokestatic 41, 3) := by decide +kernel
theorem dX8_price_7 : decode cX8_price 7 = .ok (.ifCond .ne 5, 3) := by decide +kernel
theorem dX8_price_10 : decode cX8_price 10 = .ok (.iconst (-1), 1) := by decide +kernel
theorem dX8_price_11 : decode cX8_price 11 = .ok (.ireturn, 1) := by decide +kernel
theorem dX8_price_12 : decode cX8_price 12 = .ok (.iload_n 2, 1) := by decide +kernel
theorem dX8_price_13 : decode cX8_price 13 = .ok (.iconst 0, 1) := by decide +kernel
theorem dX8_price_14 : decode cX8_price 14 = .ok (.bipush 99, 2) := by decide +kernel
theorem dX8_price_16 : decode cX8_price 16 = .ok (.invokestatic 41, 3) := by decide +kernel
theorem dX8_price_19 : decode cX8_price 19 = .ok (.ifCond .ne 6, 3) := by decide +kernel
theorem dX8_price_22 : decode cX8_price 22 = .ok (.bipush (-2), 2) := by decide +kernel
theorem dX8_price_24 : decode cX8_price 24 = .ok (.ireturn, 1) := by decide +kernel
theorem dX8_price_25 : decode cX8_price 25 = .ok (.aload_n 0, 1) := by decide +kernel
theorem dX8_price_26 : decode cX8_price 26 = .ok (.getfield 7, 3) := by decide +kernel
theorem dX8_price_29 : decode cX8_price 29 = .ok (.iload_n 1, 1) := by decide +kernel
theorem dX8_price_30 : decode cX8_price 30 = .ok (.iaload, 1) := by decide +kernel
theorem dX8_price_31 : decode cX8_price 31 = .ok (.istore_n 3, 1) := by decide +kernel
theorem dX8_price_32 : decode cX8_price 32 = .ok (.iload_n 3, 1) := by decide +kernel
theorem dX8_price_33 : decode cX8_price 33 = .ok (.iload_n 2, 1) := by decide +kernel
theorem dX8_price_34 : decode cX8_price 34 = .ok (.if_icmp .ne 6, 3) := by decide +kernel
theorem dX8_price_37 : decode cX8_price 37 = .ok (.bipush (-5), 2) := by decide +kernel
theorem dX8_price_39 : decode cX8_price 39 = .ok (.ireturn, 1) := by decide +kernel
theorem dX8_price_40 : decode cX8_price 40 = .ok (.aload_n 0, 1) := by decide +kernel
theorem dX8_price_41 : decode cX8_price 41 = .ok (.invokevirtual 93, 3) := by decide +kernel
theorem dX8_price_44 : decode cX8_price 44 = .ok (.aload_n 0, 1) := by decide +kernel
theorem dX8_price_45 : decode cX8_price 45 = .ok (.getfield 7, 3) := by decide +kernel
theorem dX8_price_48 : decode cX8_price 48 = .ok (.iload_n 1, 1) := by decide +kernel
theorem dX8_price_49 : decode cX8_price 49 = .ok (.iload_n 2, 1) := by decide +kernel
theorem dX8_price_50 : decode cX8_price 50 = .ok (.iastore, 1) := by decide +kernel
theorem dX8_price_51 : decode cX8_price 51 = .ok (.aload_n 0, 1) := by decide +kernel
theorem dX8_price_52 : decode cX8_price 52 = .ok (.iload_n 3, 1) := by decide +kernel
theorem dX8_price_53 : decode cX8_price 53 = .ok (.invokevirtual 100, 3) := by decide +kernel
theorem dX8_price_56 : decode cX8_price 56 = .ok (.ireturn, 1) := by decide +kernel
theorem dX8_want_0 : decode cX8_want 0 = .ok (.iload_n 1, 1) := by decide +kernel
theorem dX8_want_1 : decode cX8_want 1 = .ok (.invokestatic 89, 3) := by decide +kernel
theorem dX8_want_4 : decode cX8_want 4 = .ok (.ifCond .ne 6, 3) := by decide +kernel
theorem dX8_want_7 : decode cX8_want 7 = .ok (.bipush (-2), 2) := by decide +kernel
theorem dX8_want_9 : decode cX8_want 9 = .ok (.ireturn, 1) := by decide +kernel
theorem dX8_want_10 : decode cX8_want 10 = .ok (.aload_n 0, 1) := by decide +kernel
theorem dX8_want_11 : decode cX8_want 11 = .ok (.invokevirtual 93, 3) := by decide +kernel
theorem dX8_want_14 : decode cX8_want 14 = .ok (.aload_n 0, 1) := by decide +kernel
theorem dX8_want_15 : decode cX8_want 15 = .ok (.aload_n 0, 1) := by decide +kernel
theorem dX8_want_16 : decode cX8_want 16 = .ok (.iload_n 1, 1) := by decide +kernel
theorem dX8_want_17 : decode cX8_want 17 = .ok (.invokevirtual 118, 3) := by decide +kernel
theorem dX8_want_20 : decode cX8_want 20 = .ok (.invokevirtual 100, 3) := by decide +kernel
theorem dX8_want_23 : decode cX8_want 23 = .ok (.ireturn, 1) := by decide +kernel
theorem dX8_serve_0 : decode cX8_serve 0 = .ok (.aload_n 0, 1) := by decide +kernel
theorem dX8_serve_1 : decode cX8_serve 1 = .ok (.invokevirtual 64, 3) := by decide +kernel
theorem dX8_serve_4 : decode cX8_serve 4 = .ok (.aload_n 0, 1) := by decide +kernel
theorem dX8_serve_5 : decode cX8_serve 5 = .ok (.invokevirtual 93, 3) := by decide +kernel
theorem dX8_serve_8 : decode cX8_serve 8 = .ok (.aload_n 0, 1) := by decide +kernel
theorem dX8_serve_9 : decode cX8_serve 9 = .ok (.aload_n 0, 1) := by decide +kernel
theorem dX8_serve_10 : decode cX8_serve 10 = .ok (.invokevirtual 121, 3) := by decide +kernel
theorem dX8_serve_13 : decode cX8_serve 13 = .ok (.invokevirtual 100, 3) := by decide +kernel
theorem dX8_serve_16 : decode cX8_serve 16 = .ok (.ireturn, 1) := by decide +kernel
theorem dX8_type_0 : decode cX8_type 0 = .ok (.aload_n 0, 1) := by decide +kernel
theorem dX8_type_1 : decode cX8_type 1 = .ok (.getfield 124, 3) := by decide +kernel
theorem dX8_type_4 : decode cX8_type 4 = .ok (.bipush 60, 2) := by decide +kernel
theorem dX8_type_6 : decode cX8_type 6 = .ok (.if_icmp .ne 6, 3) := by decide +kernel
theorem dX8_type_9 : decode cX8_type 9 = .ok (.bipush (-3), 2) := by decide +kernel
theorem dX8_type_11 : decode cX8_type 11 = .ok (.ireturn, 1) := by decide +kernel
theorem dX8_type_12 : decode cX8_type 12 = .ok (.aload_n 0, 1) := by decide +kernel
theorem dX8_type_13 : decode cX8_type 13 = .ok (.getfield 22, 3) := by decide +kernel
theorem dX8_type_16 : decode cX8_type 16 = .ok (.aload_n 0, 1) := by decide +kernel
theorem dX8_type_17 : decode cX8_type 17 = .ok (.getfield 124, 3) := by decide +kernel
theorem dX8_type_20 : decode cX8_type 20 = .ok (.iload_n 1, 1) := by decide +kernel
theorem dX8_type_21 : decode cX8_type 21 = .ok (.iastore, 1) := by decide +kernel
theorem dX8_type_22 : decode cX8_type 22 = .ok (.aload_n 0, 1) := by decide +kernel
theorem dX8_type_23 : decode cX8_type 23 = .ok (.dup, 1) := by decide +kernel
theorem dX8_type_24 : decode cX8_type 24 = .ok (.getfield 124, 3) := by decide +kernel
theorem dX8_type_27 : decode cX8_type 27 = .ok (.iconst 1, 1) := by decide +kernel
theorem dX8_type_28 : decode cX8_type 28 = .ok (.iadd, 1) := by decide +kernel
theorem dX8_type_29 : decode cX8_type 29 = .ok (.putfield 124, 3) := by decide +kernel
theorem dX8_type_32 : decode cX8_type 32 = .ok (.aload_n 0, 1) := by decide +kernel
theorem dX8_type_33 : decode cX8_type 33 = .ok (.getfield 124, 3) := by decide +kernel
theorem dX8_type_36 : decode cX8_type 36 = .ok (.ireturn, 1) := by decide +kernel
theorem dX8_clearText_0 : decode cX8_clearText 0 = .ok (.aload_n 0, 1) := by decide +kernel
theorem dX8_clearText_1 : decode cX8_clearText 1 = .ok (.getfield 124, 3) := by decide +kernel
theorem dX8_clearText_4 : decode cX8_clearText 4 = .ok (.istore_n 1, 1) := by decide +kernel
theorem dX8_clearText_5 : decode cX8_clearText 5 = .ok (.aload_n 0, 1) := by decide +kernel
theorem dX8_clearText_6 : decode cX8_clearText 6 = .ok (.iconst 0, 1) := by decide +kernel
theorem dX8_clearText_7 : decode cX8_clearText 7 = .ok (.putfield 124, 3) := by decide +kernel
theorem dX8_clearText_10 : decode cX8_clearText 10 = .ok (.iload_n 1, 1) := by decide +kernel
theorem dX8_clearText_11 : decode cX8_clearText 11 = .ok (.ireturn, 1) := by decide +kernel
theorem dX8_sign_0 : decode cX8_sign 0 = .ok (.aload_n 0, 1) := by decide +kernel
theorem dX8_sign_1 : decode cX8_sign 1 = .ok (.getfield 127, 3) := by decide +kernel
theorem dX8_sign_4 : decode cX8_sign 4 = .ok (.aload_n 0, 1) := by decide +kernel
theorem dX8_sign_5 : decode cX8_sign 5 = .ok (.getfield 124, 3) := by decide +kernel
theorem dX8_sign_8 : decode cX8_sign 8 = .ok (.if_icmp .ge 15, 3) := by decide +kernel
theorem dX8_sign_11 : decode cX8_sign 11 = .ok (.aload_n 0, 1) := by decide +kernel
theorem dX8_sign_12 : decode cX8_sign 12 = .ok (.getfield 22, 3) := by decide +kernel
theorem dX8_sign_15 : decode cX8_sign 15 = .ok (.aload_n 0, 1) := by decide +kernel
theorem dX8_sign_16 : decode cX8_sign 16 = .ok (.getfield 127, 3) := by decide +kernel
theorem dX8_sign_19 : decode cX8_sign 19 = .ok (.iaload, 1) := by decide +kernel
theorem dX8_sign_20 : decode cX8_sign 20 = .ok (.goto 4, 3) := by decide +kernel
theorem dX8_sign_23 : decode cX8_sign 23 = .ok (.iconst 0, 1) := by decide +kernel
theorem dX8_sign_24 : decode cX8_sign 24 = .ok (.istore_n 3, 1) := by decide +kernel
theorem dX8_sign_25 : decode cX8_sign 25 = .ok (.aload_n 0, 1) := by decide +kernel
theorem dX8_sign_26 : decode cX8_sign 26 = .ok (.aload_n 0, 1) := by decide +kernel
theorem dX8_sign_27 : decode cX8_sign 27 = .ok (.getfield 130, 3) := by decide +kernel
theorem dX8_sign_30 : decode cX8_sign 30 = .ok (.ifCond .ne 23, 3) := by decide +kernel
theorem dX8_sign_33 : decode cX8_sign 33 = .ok (.aload_n 0, 1) := by decide +kernel
theorem dX8_sign_34 : decode cX8_sign 34 = .ok (.getfield 127, 3) := by decide +kernel
theorem dX8_sign_37 : decode cX8_sign 37 = .ok (.aload_n 0, 1) := by decide +kernel
theorem dX8_sign_38 : decode cX8_sign 38 = .ok (.getfield 124, 3) := by decide +kernel
theorem dX8_sign_41 : decode cX8_sign 41 = .ok (.if_icmp .ge 12, 3) := by decide +kernel
theorem dX8_sign_44 : decode cX8_sign 44 = .ok (.iload_n 3, 1) := by decide +kernel
theorem dX8_sign_45 : decode cX8_sign 45 = .ok (.iload_n 1, 1) := by decide +kernel
theorem dX8_sign_46 : decode cX8_sign 46 = .ok (.iload_n 2, 1) := by decide +kernel
theorem dX8_sign_47 : decode cX8_sign 47 = .ok (.invokestatic 41, 3) := by decide +kernel
theorem dX8_sign_50 : decode cX8_sign 50 = .ok (.ifCond .ne 7, 3) := by decide +kernel
theorem dX8_sign_53 : decode cX8_sign 53 = .ok (.iconst 1, 1) := by decide +kernel
theorem dX8_sign_54 : decode cX8_sign 54 = .ok (.goto 4, 3) := by decide +kernel
theorem dX8_sign_57 : decode cX8_sign 57 = .ok (.iconst 0, 1) := by decide +kernel
theorem dX8_sign_58 : decode cX8_sign 58 = .ok (.putfield 130, 3) := by decide +kernel
theorem dX8_sign_61 : decode cX8_sign 61 = .ok (.aload_n 0, 1) := by decide +kernel
theorem dX8_sign_62 : decode cX8_sign 62 = .ok (.dup, 1) := by decide +kernel
theorem dX8_sign_63 : decode cX8_sign 63 = .ok (.getfield 127, 3) := by decide +kernel
theorem dX8_sign_66 : decode cX8_sign 66 = .ok (.aload_n 0, 1) := by decide +kernel
theorem dX8_sign_67 : decode cX8_sign 67 = .ok (.getfield 130, 3) := by decide +kernel
theorem dX8_sign_70 : decode cX8_sign 70 = .ok (.ifCond .eq 7, 3) := by decide +kernel
theorem dX8_sign_73 : decode cX8_sign 73 = .ok (.iconst 0, 1) := by decide +kernel
theorem dX8_sign_74 : decode cX8_sign 74 = .ok (.goto 4, 3) := by decide +kernel
theorem dX8_sign_77 : decode cX8_sign 77 = .ok (.iconst 1, 1) := by decide +kernel
theorem dX8_sign_78 : decode cX8_sign 78 = .ok (.iadd, 1) := by decide +kernel
theorem dX8_sign_79 : decode cX8_sign 79 = .ok (.putfield 127, 3) := by decide +kernel
theorem dX8_sign_82 : decode cX8_sign 82 = .ok (.iload_n 3, 1) := by decide +kernel
theorem dX8_sign_83 : decode cX8_sign 83 = .ok (.ireturn, 1) := by decide +kernel
theorem dX8_isNext_0 : decode cX8_isNext 0 = .ok (.aload_n 0, 1) := by decide +kernel
theorem dX8_isNext_1 : decode cX8_isNext 1 = .ok (.getfield 130, 3) := by decide +kernel
theorem dX8_isNext_4 : decode cX8_isNext 4 = .ok (.ifCond .ne 35, 3) := by decide +kernel
theorem dX8_isNext_7 : decode cX8_isNext 7 = .ok (.aload_n 0, 1) := by decide +kernel
theorem dX8_isNext_8 : decode cX8_isNext 8 = .ok (.getfield 127, 3) := by decide +kernel
theorem dX8_isNext_11 : decode cX8_isNext 11 = .ok (.aload_n 0, 1) := by decide +kernel
theorem dX8_isNext_12 : decode cX8_isNext 12 = .ok (.getfield 124, 3) := by decide +kernel
theorem dX8_isNext_15 : decode cX8_isNext 15 = .ok (.if_icmp .ge 24, 3) := by decide +kernel
theorem dX8_isNext_18 : decode cX8_isNext 18 = .ok (.aload_n 0, 1) := by decide +kernel
theorem dX8_isNext_19 : decode cX8_isNext 19 = .ok (.getfield 22, 3) := by decide +kernel
theorem dX8_isNext_22 : decode cX8_isNext 22 = .ok (.aload_n 0, 1) := by decide +kernel
theorem dX8_isNext_23 : decode cX8_isNext 23 = .ok (.getfield 127, 3) := by decide +kernel
theorem dX8_isNext_26 : decode cX8_isNext 26 = .ok (.iaload, 1) := by decide +kernel
theorem dX8_isNext_27 : decode cX8_isNext 27 = .ok (.iload_n 1, 1) := by decide +kernel
theorem dX8_isNext_28 : decode cX8_isNext 28 = .ok (.iload_n 2, 1) := by decide +kernel
theorem dX8_isNext_29 : decode cX8_isNext 29 = .ok (.invokestatic 41, 3) := by decide +kernel
theorem dX8_isNext_32 : decode cX8_isNext 32 = .ok (.ifCond .eq 7, 3) := by decide +kernel
theorem dX8_isNext_35 : decode cX8_isNext 35 = .ok (.iconst 1, 1) := by decide +kernel
theorem dX8_isNext_36 : decode cX8_isNext 36 = .ok (.goto 4, 3) := by decide +kernel
theorem dX8_isNext_39 : decode cX8_isNext 39 = .ok (.iconst 0, 1) := by decide +kernel
theorem dX8_isNext_40 : decode cX8_isNext 40 = .ok (.ireturn, 1) := by decide +kernel
theorem dX8_signs_0 : decode cX8_signs 0 = .ok (.aload_n 0, 1) := by decide +kernel
theorem dX8_signs_1 : decode cX8_signs 1 = .ok (.iload_n 1, 1) := by decide +kernel
theorem dX8_signs_2 : decode cX8_signs 2 = .ok (.iload_n 1, 1) := by decide +kernel
theorem dX8_signs_3 : decode cX8_signs 3 = .ok (.invokevirtual 133, 3) := by decide +kernel
theorem dX8_signs_6 : decode cX8_signs 6 = .ok (.istore 5, 2) := by decide +kernel
theorem dX8_signs_8 : decode cX8_signs 8 = .ok (.aload_n 0, 1) := by decide +kernel
theorem dX8_signs_9 : decode cX8_signs 9 = .ok (.iload_n 2, 1) := by decide +kernel
theorem dX8_signs_10 : decode cX8_signs 10 = .ok (.iload_n 2, 1) := by decide +kernel
theorem dX8_signs_11 : decode cX8_signs 11 = .ok (.invokevirtual 133, 3) := by decide +kernel
theorem dX8_signs_14 : decode cX8_signs 14 = .ok (.istore 6, 2) := by decide +kernel
theorem dX8_signs_16 : decode cX8_signs 16 = .ok (.iload_n 3, 1) := by decide +kernel
theorem dX8_signs_17 : decode cX8_signs 17 = .ok (.ifCond .ne 7, 3) := by decide +kernel
theorem dX8_signs_20 : decode cX8_signs 20 = .ok (.iconst 0, 1) := by decide +kernel
theorem dX8_signs_21 : decode cX8_signs 21 = .ok (.goto 9, 3) := by decide +kernel
theorem dX8_signs_24 : decode cX8_signs 24 = .ok (.aload_n 0, 1) := by decide +kernel
theorem dX8_signs_25 : decode cX8_signs 25 = .ok (.iload_n 3, 1) := by decide +kernel
theorem dX8_signs_26 : decode cX8_signs 26 = .ok (.iload_n 3, 1) := by decide +kernel
theorem dX8_signs_27 : decode cX8_signs 27 = .ok (.invokevirtual 133, 3) := by decide +kernel
theorem dX8_signs_30 : decode cX8_signs 30 = .ok (.istore 7, 2) := by decide +kernel
theorem dX8_signs_32 : decode cX8_signs 32 = .ok (.iload 4, 2) := by decide +kernel
theorem dX8_signs_34 : decode cX8_signs 34 = .ok (.ifCond .ne 7, 3) := by decide +kernel
theorem dX8_signs_37 : decode cX8_signs 37 = .ok (.iconst 0, 1) := by decide +kernel
theorem dX8_signs_38 : decode cX8_signs 38 = .ok (.goto 11, 3) := by decide +kernel
theorem dX8_signs_41 : decode cX8_signs 41 = .ok (.aload_n 0, 1) := by decide +kernel
theorem dX8_signs_42 : decode cX8_signs 42 = .ok (.iload 4, 2) := by decide +kernel
theorem dX8_signs_44 : decode cX8_signs 44 = .ok (.iload 4, 2) := by decide +kernel
theorem dX8_signs_46 : decode cX8_signs 46 = .ok (.invokevirtual 133, 3) := by decide +kernel
theorem dX8_signs_49 : decode cX8_signs 49 = .ok (.istore 8, 2) := by decide +kernel
theorem dX8_signs_51 : decode cX8_signs 51 = .ok (.aload_n 0, 1) := by decide +kernel
theorem dX8_signs_52 : decode cX8_signs 52 = .ok (.bipush 61, 2) := by decide +kernel
theorem dX8_signs_54 : decode cX8_signs 54 = .ok (.bipush 61, 2) := by decide +kernel
theorem dX8_signs_56 : decode cX8_signs 56 = .ok (.invokevirtual 133, 3) := by decide +kernel
theorem dX8_signs_59 : decode cX8_signs 59 = .ok (.istore 9, 2) := by decide +kernel
theorem dX8_signs_61 : decode cX8_signs 61 = .ok (.return_, 1) := by decide +kernel
theorem dX8_mix_0 : decode cX8_mix 0 = .ok (.iconst 0, 1) := by decide +kernel
theorem dX8_mix_1 : decode cX8_mix 1 = .ok (.istore_n 1, 1) := by decide +kernel
theorem dX8_mix_2 : decode cX8_mix 2 = .ok (.aload_n 0, 1) := by decide +kernel
theorem dX8_mix_3 : decode cX8_mix 3 = .ok (.iconst 0, 1) := by decide +kernel
theorem dX8_mix_4 : decode cX8_mix 4 = .ok (.putfield 136, 3) := by decide +kernel
theorem dX8_mix_7 : decode cX8_mix 7 = .ok (.aload_n 0, 1) := by decide +kernel
theorem dX8_mix_8 : decode cX8_mix 8 = .ok (.iconst 0, 1) := by decide +kernel
theorem dX8_mix_9 : decode cX8_mix 9 = .ok (.putfield 139, 3) := by decide +kernel
theorem dX8_mix_12 : decode cX8_mix 12 = .ok (.iconst 1, 1) := by decide +kernel
theorem dX8_mix_13 : decode cX8_mix 13 = .ok (.istore_n 2, 1) := by decide +kernel
theorem dX8_mix_14 : decode cX8_mix 14 = .ok (.iload_n 2, 1) := by decide +kernel
theorem dX8_mix_15 : decode cX8_mix 15 = .ok (.ifCond .eq 130, 3) := by decide +kernel
theorem dX8_mix_18 : decode cX8_mix 18 = .ok (.aload_n 0, 1) := by decide +kernel
theorem dX8_mix_19 : decode cX8_mix 19 = .ok (.bipush 97, 2) := by decide +kernel
theorem dX8_mix_21 : decode cX8_mix 21 = .ok (.bipush 104, 2) := by decide +kernel
theorem dX8_mix_23 : decode cX8_mix 23 = .ok (.invokevirtual 133, 3) := by decide +kernel
theorem dX8_mix_26 : decode cX8_mix 26 = .ok (.bipush 97, 2) := by decide +kernel
theorem dX8_mix_28 : decode cX8_mix 28 = .ok (.isub, 1) := by decide +kernel
theorem dX8_mix_29 : decode cX8_mix 29 = .ok (.istore_n 3, 1) := by decide +kernel
theorem dX8_mix_30 : decode cX8_mix 30 = .ok (.iconst 1, 1) := by decide +kernel
theorem dX8_mix_31 : decode cX8_mix 31 = .ok (.istore 4, 2) := by decide +kernel
theorem dX8_mix_33 : decode cX8_mix 33 = .ok (.aload_n 0, 1) := by decide +kernel
theorem dX8_mix_34 : decode cX8_mix 34 = .ok (.bipush 49, 2) := by decide +kernel
theorem dX8_mix_36 : decode cX8_mix 36 = .ok (.bipush 57, 2) := by decide +kernel
theorem dX8_mix_38 : decode cX8_mix 38 = .ok (.invokevirtual 142, 3) := by decide +kernel
theorem dX8_mix_41 : decode cX8_mix 41 = .ok (.ifCond .eq 27, 3) := by decide +kernel
theorem dX8_mix_44 : decode cX8_mix 44 = .ok (.aload_n 0, 1) := by decide +kernel
theorem dX8_mix_45 : decode cX8_mix 45 = .ok (.getfield 22, 3) := by decide +kernel
theorem dX8_mix_48 : decode cX8_mix 48 = .ok (.aload_n 0, 1) := by decide +kernel
theorem dX8_mix_49 : decode cX8_mix 49 = .ok (.getfield 127, 3) := by decide +kernel
theorem dX8_mix_52 : decode cX8_mix 52 = .ok (.iaload, 1) := by decide +kernel
theorem dX8_mix_53 : decode cX8_mix 53 = .ok (.bipush 48, 2) := by decide +kernel
theorem dX8_mix_55 : decode cX8_mix 55 = .ok (.isub, 1) := by decide +kernel
theorem dX8_mix_56 : decode cX8_mix 56 = .ok (.istore 4, 2) := by decide +kernel
theorem dX8_mix_58 : decode cX8_mix 58 = .ok (.aload_n 0, 1) := by decide +kernel
theorem dX8_mix_59 : decode cX8_mix 59 = .ok (.dup, 1) := by decide +kernel
theorem dX8_mix_60 : decode cX8_mix 60 = .ok (.getfield 127, 3) := by decide +kernel
theorem dX8_mix_63 : decode cX8_mix 63 = .ok (.iconst 1, 1) := by decide +kernel
theorem dX8_mix_64 : decode cX8_mix 64 = .ok (.iadd, 1) := by decide +kernel
theorem dX8_mix_65 : decode cX8_mix 65 = .ok (.putfield 127, 3) := by decide +kernel
theorem dX8_mix_68 : decode cX8_mix 68 = .ok (.aload_n 0, 1) := by decide +kernel
theorem dX8_mix_69 : decode cX8_mix 69 = .ok (.getfield 130, 3) := by decide +kernel
theorem dX8_mix_72 : decode cX8_mix 72 = .ok (.ifCond .ne 61, 3) := by decide +kernel
theorem dX8_mix_75 : decode cX8_mix 75 = .ok (.iload_n 3, 1) := by decide +kernel
theorem dX8_mix_76 : decode cX8_mix 76 = .ok (.invokestatic 146, 3) := by decide +kernel
theorem dX8_mix_79 : decode cX8_mix 79 = .ok (.istore 5, 2) := by decide +kernel
theorem dX8_mix_81 : decode cX8_mix 81 = .ok (.iconst 0, 1) := by decide +kernel
theorem dX8_mix_82 : decode cX8_mix 82 = .ok (.istore 6, 2) := by decide +kernel
theorem dX8_mix_84 : decode cX8_mix 84 = .ok (.iload 6, 2) := by decide +kernel
theorem dX8_mix_86 : decode cX8_mix 86 = .ok (.iload 4, 2) := by decide +kernel
theorem dX8_mix_88 : decode cX8_mix 88 = .ok (.if_icmp .ge 16, 3) := by decide +kernel
theorem dX8_mix_91 : decode cX8_mix 91 = .ok (.iload_n 1, 1) := by decide +kernel
theorem dX8_mix_92 : decode cX8_mix 92 = .ok (.iload 5, 2) := by decide +kernel
theorem dX8_mix_94 : decode cX8_mix 94 = .ok (.invokestatic 53, 3) := by decide +kernel
theorem dX8_mix_97 : decode cX8_mix 97 = .ok (.istore_n 1, 1) := by decide +kernel
theorem dX8_mix_98 : decode cX8_mix 98 = .ok (.iinc 6 1, 3) := by decide +kernel
theorem dX8_mix_101 : decode cX8_mix 101 = .ok (.goto (-17), 3) := by decide +kernel
theorem dX8_mix_104 : decode cX8_mix 104 = .ok (.aload_n 0, 1) := by decide +kernel
theorem dX8_mix_105 : decode cX8_mix 105 = .ok (.dup, 1) := by decide +kernel
theorem dX8_mix_106 : decode cX8_mix 106 = .ok (.getfield 136, 3) := by decide +kernel
theorem dX8_mix_109 : decode cX8_mix 109 = .ok (.iload 4, 2) := by decide +kernel
theorem dX8_mix_111 : decode cX8_mix 111 = .ok (.iadd, 1) := by decide +kernel
theorem dX8_mix_112 : decode cX8_mix 112 = .ok (.putfield 136, 3) := by decide +kernel
theorem dX8_mix_115 : decode cX8_mix 115 = .ok (.aload_n 0, 1) := by decide +kernel
theorem dX8_mix_116 : decode cX8_mix 116 = .ok (.dup, 1) := by decide +kernel
theorem dX8_mix_117 : decode cX8_mix 117 = .ok (.getfield 139, 3) := by decide +kernel
theorem dX8_mix_120 : decode cX8_mix 120 = .ok (.iload 4, 2) := by decide +kernel
theorem dX8_mix_122 : decode cX8_mix 122 = .ok (.aload_n 0, 1) := by decide +kernel
theorem dX8_mix_123 : decode cX8_mix 123 = .ok (.getfield 7, 3) := by decide +kernel
theorem dX8_mix_126 : decode cX8_mix 126 = .ok (.iload_n 3, 1) := by decide +kernel
theorem dX8_mix_127 : decode cX8_mix 127 = .ok (.iaload, 1) := by decide +kernel
theorem dX8_mix_128 : decode cX8_mix 128 = .ok (.imul, 1) := by decide +kernel
theorem dX8_mix_129 : decode cX8_mix 129 = .ok (.iadd, 1) := by decide +kernel
theorem dX8_mix_130 : decode cX8_mix 130 = .ok (.putfield 139, 3) := by decide +kernel
theorem dX8_mix_133 : decode cX8_mix 133 = .ok (.aload_n 0, 1) := by decide +kernel
theorem dX8_mix_134 : decode cX8_mix 134 = .ok (.bipush 97, 2) := by decide +kernel
theorem dX8_mix_136 : decode cX8_mix 136 = .ok (.bipush 104, 2) := by decide +kernel
theorem dX8_mix_138 : decode cX8_mix 138 = .ok (.invokevirtual 142, 3) := by decide +kernel
theorem dX8_mix_141 : decode cX8_mix 141 = .ok (.istore_n 2, 1) := by decide +kernel
theorem dX8_mix_142 : decode cX8_mix 142 = .ok (.goto (-128), 3) := by decide +kernel
theorem dX8_mix_145 : decode cX8_mix 145 = .ok (.iload_n 1, 1) := by decide +kernel
theorem dX8_mix_146 : decode cX8_mix 146 = .ok (.ireturn, 1) := by decide +kernel
theorem dX8_number_0 : decode cX8_number 0 = .ok (.aload_n 0, 1) := by decide +kernel
theorem dX8_number_1 : decode cX8_number 1 = .ok (.bipush 48, 2) := by decide +kernel
theorem dX8_number_3 : decode cX8_number 3 = .ok (.bipush 57, 2) := by decide +kernel
theorem dX8_number_5 : decode cX8_number 5 = .ok (.invokevirtual 133, 3) := by decide +kernel
theorem dX8_number_8 : decode cX8_number 8 = .ok (.bipush 48, 2) := by decide +kernel
theorem dX8_number_10 : decode cX8_number 10 = .ok (.isub, 1) := by decide +kernel
theorem dX8_number_11 : decode cX8_number 11 = .ok (.istore_n 1, 1) := by decide +kernel
theorem dX8_number_12 : decode cX8_number 12 = .ok (.iload_n 1, 1) := by decide +kernel
theorem dX8_number_13 : decode cX8_number 13 = .ok (.ifCond .le 68, 3) := by decide +kernel
theorem dX8_number_16 : decode cX8_number 16 = .ok (.aload_n 0, 1) := by decide +kernel
theorem dX8_number_17 : decode cX8_number 17 = .ok (.bipush 48, 2) := by decide +kernel
theorem dX8_number_19 : decode cX8_number 19 = .ok (.bipush 57, 2) := by decide +kernel
theorem dX8_number_21 : decode cX8_number 21 = .ok (.invokevirtual 142, 3) := by decide +kernel
theorem dX8_number_24 : decode cX8_number 24 = .ok (.ifCond .eq 57, 3) := by decide +kernel
theorem dX8_number_27 : decode cX8_number 27 = .ok (.bipush 10, 2) := by decide +kernel
theorem dX8_number_29 : decode cX8_number 29 = .ok (.iload_n 1, 1) := by decide +kernel
theorem dX8_number_30 : decode cX8_number 30 = .ok (.imul, 1) := by decide +kernel
theorem dX8_number_31 : decode cX8_number 31 = .ok (.aload_n 0, 1) := by decide +kernel
theorem dX8_number_32 : decode cX8_number 32 = .ok (.getfield 22, 3) := by decide +kernel
theorem dX8_number_35 : decode cX8_number 35 = .ok (.aload_n 0, 1) := by decide +kernel
theorem dX8_number_36 : decode cX8_number 36 = .ok (.getfield 127, 3) := by decide +kernel
theorem dX8_number_39 : decode cX8_number 39 = .ok (.iaload, 1) := by decide +kernel
theorem dX8_number_40 : decode cX8_number 40 = .ok (.iadd, 1) := by decide +kernel
theorem dX8_number_41 : decode cX8_number 41 = .ok (.bipush 48, 2) := by decide +kernel
theorem dX8_number_43 : decode cX8_number 43 = .ok (.isub, 1) := by decide +kernel
theorem dX8_number_44 : decode cX8_number 44 = .ok (.sipush 200, 3) := by decide +kernel
theorem dX8_number_47 : decode cX8_number 47 = .ok (.if_icmp .ge 34, 3) := by decide +kernel
theorem dX8_number_50 : decode cX8_number 50 = .ok (.bipush 10, 2) := by decide +kernel
theorem dX8_number_52 : decode cX8_number 52 = .ok (.iload_n 1, 1) := by decide +kernel
theorem dX8_number_53 : decode cX8_number 53 = .ok (.imul, 1) := by decide +kernel
theorem dX8_number_54 : decode cX8_number 54 = .ok (.aload_n 0, 1) := by decide +kernel
theorem dX8_number_55 : decode cX8_number 55 = .ok (.getfield 22, 3) := by decide +kernel
theorem dX8_number_58 : decode cX8_number 58 = .ok (.aload_n 0, 1) := by decide +kernel
theorem dX8_number_59 : decode cX8_number 59 = .ok (.getfield 127, 3) := by decide +kernel
theorem dX8_number_62 : decode cX8_number 62 = .ok (.iaload, 1) := by decide +kernel
theorem dX8_number_63 : decode cX8_number 63 = .ok (.iadd, 1) := by decide +kernel
theorem dX8_number_64 : decode cX8_number 64 = .ok (.bipush 48, 2) := by decide +kernel
theorem dX8_number_66 : decode cX8_number 66 = .ok (.isub, 1) := by decide +kernel
theorem dX8_number_67 : decode cX8_number 67 = .ok (.istore_n 1, 1) := by decide +kernel
theorem dX8_number_68 : decode cX8_number 68 = .ok (.aload_n 0, 1) := by decide +kernel
theorem dX8_number_69 : decode cX8_number 69 = .ok (.dup, 1) := by decide +kernel
theorem dX8_number_70 : decode cX8_number 70 = .ok (.getfield 127, 3) := by decide +kernel
theorem dX8_number_73 : decode cX8_number 73 = .ok (.iconst 1, 1) := by decide +kernel
theorem dX8_number_74 : decode cX8_number 74 = .ok (.iadd, 1) := by decide +kernel
theorem dX8_number_75 : decode cX8_number 75 = .ok (.putfield 127, 3) := by decide +kernel
theorem dX8_number_78 : decode cX8_number 78 = .ok (.goto (-66), 3) := by decide +kernel
theorem dX8_number_81 : decode cX8_number 81 = .ok (.iload_n 1, 1) := by decide +kernel
theorem dX8_number_82 : decode cX8_number 82 = .ok (.ireturn, 1) := by decide +kernel
theorem dX8_order_0 : decode cX8_order 0 = .ok (.aload_n 0, 1) := by decide +kernel
theorem dX8_order_1 : decode cX8_order 1 = .ok (.bipush 106, 2) := by decide +kernel
theorem dX8_order_3 : decode cX8_order 3 = .ok (.bipush 106, 2) := by decide +kernel
theorem dX8_order_5 : decode cX8_order 5 = .ok (.invokevirtual 142, 3) := by decide +kernel
theorem dX8_order_8 : decode cX8_order 8 = .ok (.ifCond .eq 50, 3) := by decide +kernel
theorem dX8_order_11 : decode cX8_order 11 = .ok (.aload_n 0, 1) := by decide +kernel
theorem dX8_order_12 : decode cX8_order 12 = .ok (.dup, 1) := by decide +kernel
theorem dX8_order_13 : decode cX8_order 13 = .ok (.getfield 127, 3) := by decide +kernel
theorem dX8_order_16 : decode cX8_order 16 = .ok (.iconst 1, 1) := by decide +kernel
theorem dX8_order_17 : decode cX8_order 17 = .ok (.iadd, 1) := by decide +kernel
theorem dX8_order_18 : decode cX8_order 18 = .ok (.putfield 127, 3) := by decide +kernel
theorem dX8_order_21 : decode cX8_order 21 = .ok (.aload_n 0, 1) := by decide +kernel
theorem dX8_order_22 : decode cX8_order 22 = .ok (.bipush 97, 2) := by decide +kernel
theorem dX8_order_24 : decode cX8_order 24 = .ok (.bipush 114, 2) := by decide +kernel
theorem dX8_order_26 : decode cX8_order 26 = .ok (.iconst 0, 1) := by decide +kernel
theorem dX8_order_27 : decode cX8_order 27 = .ok (.iconst 0, 1) := by decide +kernel
theorem dX8_order_28 : decode cX8_order 28 = .ok (.invokevirtual 149, 3) := by decide +kernel
theorem dX8_order_31 : decode cX8_order 31 = .ok (.aload_n 0, 1) := by decide +kernel
theorem dX8_order_32 : decode cX8_order 32 = .ok (.invokevirtual 153, 3) := by decide +kernel
theorem dX8_order_35 : decode cX8_order 35 = .ok (.istore_n 2, 1) := by decide +kernel
theorem dX8_order_36 : decode cX8_order 36 = .ok (.iload_n 1, 1) := by decide +kernel
theorem dX8_order_37 : decode cX8_order 37 = .ok (.ifCond .eq 19, 3) := by decide +kernel
theorem dX8_order_40 : decode cX8_order 40 = .ok (.aload_n 0, 1) := by decide +kernel
theorem dX8_order_41 : decode cX8_order 41 = .ok (.iload_n 2, 1) := by decide +kernel
theorem dX8_order_42 : decode cX8_order 42 = .ok (.aload_n 0, 1) := by decide +kernel
theorem dX8_order_43 : decode cX8_order 43 = .ok (.getfield 136, 3) := by decide +kernel
theorem dX8_order_46 : decode cX8_order 46 = .ok (.aload_n 0, 1) := by decide +kernel
theorem dX8_order_47 : decode cX8_order 47 = .ok (.getfield 139, 3) := by decide +kernel
theorem dX8_order_50 : decode cX8_order 50 = .ok (.invokevirtual 96, 3) := by decide +kernel
theorem dX8_order_53 : decode cX8_order 53 = .ok (.goto 4, 3) := by decide +kernel
theorem dX8_order_56 : decode cX8_order 56 = .ok (.iconst 0, 1) := by decide +kernel
theorem dX8_order_57 : decode cX8_order 57 = .ok (.ireturn, 1) := by decide +kernel
theorem dX8_order_58 : decode cX8_order 58 = .ok (.aload_n 0, 1) := by decide +kernel
theorem dX8_order_59 : decode cX8_order 59 = .ok (.bipush 114, 2) := by decide +kernel
theorem dX8_order_61 : decode cX8_order 61 = .ok (.bipush 114, 2) := by decide +kernel
theorem dX8_order_63 : decode cX8_order 63 = .ok (.invokevirtual 142, 3) := by decide +kernel
theorem dX8_order_66 : decode cX8_order 66 = .ok (.ifCond .eq 43, 3) := by decide +kernel
theorem dX8_order_69 : decode cX8_order 69 = .ok (.aload_n 0, 1) := by decide +kernel
theorem dX8_order_70 : decode cX8_order 70 = .ok (.dup, 1) := by decide +kernel
theorem dX8_order_71 : decode cX8_order 71 = .ok (.getfield 127, 3) := by decide +kernel
theorem dX8_order_74 : decode cX8_order 74 = .ok (.iconst 1, 1) := by decide +kernel
theorem dX8_order_75 : decode cX8_order 75 = .ok (.iadd, 1) := by decide +kernel
theorem dX8_order_76 : decode cX8_order 76 = .ok (.putfield 127, 3) := by decide +kernel
theorem dX8_order_79 : decode cX8_order 79 = .ok (.aload_n 0, 1) := by decide +kernel
theorem dX8_order_80 : decode cX8_order 80 = .ok (.bipush 117, 2) := by decide +kernel
theorem dX8_order_82 : decode cX8_order 82 = .ok (.bipush 108, 2) := by decide +kernel
theorem dX8_order_84 : decode cX8_order 84 = .ok (.bipush 101, 2) := by decide +kernel
theorem dX8_order_86 : decode cX8_order 86 = .ok (.iconst 0, 1) := by decide +kernel
theorem dX8_order_87 : decode cX8_order 87 = .ok (.invokevirtual 149, 3) := by decide +kernel
theorem dX8_order_90 : decode cX8_order 90 = .ok (.aload_n 0, 1) := by decide +kernel
theorem dX8_order_91 : decode cX8_order 91 = .ok (.invokevirtual 153, 3) := by decide +kernel
theorem dX8_order_94 : decode cX8_order 94 = .ok (.istore_n 2, 1) := by decide +kernel
theorem dX8_order_95 : decode cX8_order 95 = .ok (.iload_n 1, 1) := by decide +kernel
theorem dX8_order_96 : decode cX8_order 96 = .ok (.ifCond .eq 11, 3) := by decide +kernel
theorem dX8_order_99 : decode cX8_order 99 = .ok (.aload_n 0, 1) := by decide +kernel
theorem dX8_order_100 : decode cX8_order 100 = .ok (.iload_n 2, 1) := by decide +kernel
theorem dX8_order_101 : decode cX8_order 101 = .ok (.invokevirtual 109, 3) := by decide +kernel
theorem dX8_order_104 : decode cX8_order 104 = .ok (.goto 4, 3) := by decide +kernel
theorem dX8_order_107 : decode cX8_order 107 = .ok (.iconst 0, 1) := by decide +kernel
theorem dX8_order_108 : decode cX8_order 108 = .ok (.ireturn, 1) := by decide +kernel
theorem dX8_order_109 : decode cX8_order 109 = .ok (.aload_n 0, 1) := by decide +kernel
theorem dX8_order_110 : decode cX8_order 110 = .ok (.bipush 119, 2) := by decide +kernel
theorem dX8_order_112 : decode cX8_order 112 = .ok (.bipush 119, 2) := by decide +kernel
theorem dX8_order_114 : decode cX8_order 114 = .ok (.invokevirtual 142, 3) := by decide +kernel
theorem dX8_order_117 : decode cX8_order 117 = .ok (.ifCond .eq 43, 3) := by decide +kernel
theorem dX8_order_120 : decode cX8_order 120 = .ok (.aload_n 0, 1) := by decide +kernel
theorem dX8_order_121 : decode cX8_order 121 = .ok (.dup, 1) := by decide +kernel
theorem dX8_order_122 : decode cX8_order 122 = .ok (.getfield 127, 3) := by decide +kernel
theorem dX8_order_125 : decode cX8_order 125 = .ok (.iconst 1, 1) := by decide +kernel
theorem dX8_order_126 : decode cX8_order 126 = .ok (.iadd, 1) := by decide +kernel
theorem dX8_order_127 : decode cX8_order 127 = .ok (.putfield 127, 3) := by decide +kernel
theorem dX8_order_130 : decode cX8_order 130 = .ok (.aload_n 0, 1) := by decide +kernel
theorem dX8_order_131 : decode cX8_order 131 = .ok (.bipush 97, 2) := by decide +kernel
theorem dX8_order_133 : decode cX8_order 133 = .ok (.bipush 110, 2) := by decide +kernel
theorem dX8_order_135 : decode cX8_order 135 = .ok (.bipush 116, 2) := by decide +kernel
theorem dX8_order_137 : decode cX8_order 137 = .ok (.iconst 0, 1) := by decide +kernel
theorem dX8_order_138 : decode cX8_order 138 = .ok (.invokevirtual 149, 3) := by decide +kernel
theorem dX8_order_141 : decode cX8_order 141 = .ok (.aload_n 0, 1) := by decide +kernel
theorem dX8_order_142 : decode cX8_order 142 = .ok (.invokevirtual 153, 3) := by decide +kernel
theorem dX8_order_145 : decode cX8_order 145 = .ok (.istore_n 2, 1) := by decide +kernel
theorem dX8_order_146 : decode cX8_order 146 = .ok (.iload_n 1, 1) := by decide +kernel
theorem dX8_order_147 : decode cX8_order 147 = .ok (.ifCond .eq 11, 3) := by decide +kernel
theorem dX8_order_150 : decode cX8_order 150 = .ok (.aload_n 0, 1) := by decide +kernel
theorem dX8_order_151 : decode cX8_order 151 = .ok (.iload_n 2, 1) := by decide +kernel
theorem dX8_order_152 : decode cX8_order 152 = .ok (.invokevirtual 118, 3) := by decide +kernel
theorem dX8_order_155 : decode cX8_order 155 = .ok (.goto 4, 3) := by decide +kernel
theorem dX8_order_158 : decode cX8_order 158 = .ok (.iconst 0, 1) := by decide +kernel
theorem dX8_order_159 : decode cX8_order 159 = .ok (.ireturn, 1) := by decide +kernel
theorem dX8_order_160 : decode cX8_order 160 = .ok (.aload_n 0, 1) := by decide +kernel
theorem dX8_order_161 : decode cX8_order 161 = .ok (.bipush 100, 2) := by decide +kernel
theorem dX8_order_163 : decode cX8_order 163 = .ok (.bipush 100, 2) := by decide +kernel
theorem dX8_order_165 : decode cX8_order 165 = .ok (.invokevirtual 142, 3) := by decide +kernel
theorem dX8_order_168 : decode cX8_order 168 = .ok (.ifCond .eq 50, 3) := by decide +kernel
theorem dX8_order_171 : decode cX8_order 171 = .ok (.aload_n 0, 1) := by decide +kernel
theorem dX8_order_172 : decode cX8_order 172 = .ok (.dup, 1) := by decide +kernel
theorem dX8_order_173 : decode cX8_order 173 = .ok (.getfield 127, 3) := by decide +kernel
theorem dX8_order_176 : decode cX8_order 176 = .ok (.iconst 1, 1) := by decide +kernel
theorem dX8_order_177 : decode cX8_order 177 = .ok (.iadd, 1) := by decide +kernel
theorem dX8_order_178 : decode cX8_order 178 = .ok (.putfield 127, 3) := by decide +kernel
theorem dX8_order_181 : decode cX8_order 181 = .ok (.aload_n 0, 1) := by decide +kernel
theorem dX8_order_182 : decode cX8_order 182 = .ok (.bipush 114, 2) := by decide +kernel
theorem dX8_order_184 : decode cX8_order 184 = .ok (.bipush 111, 2) := by decide +kernel
theorem dX8_order_186 : decode cX8_order 186 = .ok (.bipush 112, 2) := by decide +kernel
theorem dX8_order_188 : decode cX8_order 188 = .ok (.iconst 0, 1) := by decide +kernel
theorem dX8_order_189 : decode cX8_order 189 = .ok (.invokevirtual 149, 3) := by decide +kernel
theorem dX8_order_192 : decode cX8_order 192 = .ok (.aload_n 0, 1) := by decide +kernel
theorem dX8_order_193 : decode cX8_order 193 = .ok (.bipush 48, 2) := by decide +kernel
theorem dX8_order_195 : decode cX8_order 195 = .ok (.bipush 57, 2) := by decide +kernel
theorem dX8_order_197 : decode cX8_order 197 = .ok (.invokevirtual 133, 3) := by decide +kernel
theorem dX8_order_200 : decode cX8_order 200 = .ok (.bipush 48, 2) := by decide +kernel
theorem dX8_order_202 : decode cX8_order 202 = .ok (.isub, 1) := by decide +kernel
theorem dX8_order_203 : decode cX8_order 203 = .ok (.istore_n 2, 1) := by decide +kernel
theorem dX8_order_204 : decode cX8_order 204 = .ok (.iload_n 1, 1) := by decide +kernel
theorem dX8_order_205 : decode cX8_order 205 = .ok (.ifCond .eq 11, 3) := by decide +kernel
theorem dX8_order_208 : decode cX8_order 208 = .ok (.aload_n 0, 1) := by decide +kernel
theorem dX8_order_209 : decode cX8_order 209 = .ok (.iload_n 2, 1) := by decide +kernel
theorem dX8_order_210 : decode cX8_order 210 = .ok (.invokevirtual 115, 3) := by decide +kernel
theorem dX8_order_213 : decode cX8_order 213 = .ok (.goto 4, 3) := by decide +kernel
theorem dX8_order_216 : decode cX8_order 216 = .ok (.iconst 0, 1) := by decide +kernel
theorem dX8_order_217 : decode cX8_order 217 = .ok (.ireturn, 1) := by decide +kernel
theorem dX8_order_218 : decode cX8_order 218 = .ok (.aload_n 0, 1) := by decide +kernel
theorem dX8_order_219 : decode cX8_order 219 = .ok (.bipush 112, 2) := by decide +kernel
theorem dX8_order_221 : decode cX8_order 221 = .ok (.bipush 112, 2) := by decide +kernel
theorem dX8_order_223 : decode cX8_order 223 = .ok (.invokevirtual 142, 3) := by decide +kernel
theorem dX8_order_226 : decode cX8_order 226 = .ok (.ifCond .eq 60, 3) := by decide +kernel
theorem dX8_order_229 : decode cX8_order 229 = .ok (.aload_n 0, 1) := by decide +kernel
theorem dX8_order_230 : decode cX8_order 230 = .ok (.dup, 1) := by decide +kernel
theorem dX8_order_231 : decode cX8_order 231 = .ok (.getfield 127, 3) := by decide +kernel
theorem dX8_order_234 : decode cX8_order 234 = .ok (.iconst 1, 1) := by decide +kernel
theorem dX8_order_235 : decode cX8_order 235 = .ok (.iadd, 1) := by decide +kernel
theorem dX8_order_236 : decode cX8_order 236 = .ok (.putfield 127, 3) := by decide +kernel
theorem dX8_order_239 : decode cX8_order 239 = .ok (.aload_n 0, 1) := by decide +kernel
theorem dX8_order_240 : decode cX8_order 240 = .ok (.bipush 111, 2) := by decide +kernel
theorem dX8_order_242 : decode cX8_order 242 = .ok (.bipush 117, 2) := by decide +kernel
theorem dX8_order_244 : decode cX8_order 244 = .ok (.bipush 114, 2) := by decide +kernel
theorem dX8_order_246 : decode cX8_order 246 = .ok (.iconst 0, 1) := by decide +kernel
theorem dX8_order_247 : decode cX8_order 247 = .ok (.invokevirtual 149, 3) := by decide +kernel
theorem dX8_order_250 : decode cX8_order 250 = .ok (.aload_n 0, 1) := by decide +kernel
theorem dX8_order_251 : decode cX8_order 251 = .ok (.invokevirtual 156, 3) := by decide +kernel
theorem dX8_order_254 : decode cX8_order 254 = .ok (.istore_n 2, 1) := by decide +kernel
theorem dX8_order_255 : decode cX8_order 255 = .ok (.aload_n 0, 1) := by decide +kernel
theorem dX8_order_256 : decode cX8_order 256 = .ok (.bipush 62, 2) := by decide +kernel
theorem dX8_order_258 : decode cX8_order 258 = .ok (.bipush 62, 2) := by decide +kernel
theorem dX8_order_260 : decode cX8_order 260 = .ok (.invokevirtual 133, 3) := by decide +kernel
theorem dX8_order_263 : decode cX8_order 263 = .ok (.istore_n 3, 1) := by decide +kernel
theorem dX8_order_264 : decode cX8_order 264 = .ok (.aload_n 0, 1) := by decide +kernel
theorem dX8_order_265 : decode cX8_order 265 = .ok (.invokevirtual 156, 3) := by decide +kernel
theorem dX8_order_268 : decode cX8_order 268 = .ok (.istore 4, 2) := by decide +kernel
theorem dX8_order_270 : decode cX8_order 270 = .ok (.iload_n 1, 1) := by decide +kernel
theorem dX8_order_271 : decode cX8_order 271 = .ok (.ifCond .eq 13, 3) := by decide +kernel
theorem dX8_order_274 : decode cX8_order 274 = .ok (.aload_n 0, 1) := by decide +kernel
theorem dX8_order_275 : decode cX8_order 275 = .ok (.iload_n 2, 1) := by decide +kernel
theorem dX8_order_276 : decode cX8_order 276 = .ok (.iload 4, 2) := by decide +kernel
theorem dX8_order_278 : decode cX8_order 278 = .ok (.invokevirtual 103, 3) := by decide +kernel
theorem dX8_order_281 : decode cX8_order 281 = .ok (.goto 4, 3) := by decide +kernel
theorem dX8_order_284 : decode cX8_order 284 = .ok (.iconst 0, 1) := by decide +kernel
theorem dX8_order_285 : decode cX8_order 285 = .ok (.ireturn, 1) := by decide +kernel
theorem dX8_order_286 : decode cX8_order 286 = .ok (.aload_n 0, 1) := by decide +kernel
theorem dX8_order_287 : decode cX8_order 287 = .ok (.bipush 109, 2) := by decide +kernel
theorem dX8_order_289 : decode cX8_order 289 = .ok (.bipush 111, 2) := by decide +kernel
theorem dX8_order_291 : decode cX8_order 291 = .ok (.bipush 114, 2) := by decide +kernel
theorem dX8_order_293 : decode cX8_order 293 = .ok (.bipush 101, 2) := by decide +kernel
theorem dX8_order_295 : decode cX8_order 295 = .ok (.invokevirtual 149, 3) := by decide +kernel
theorem dX8_order_298 : decode cX8_order 298 = .ok (.aload_n 0, 1) := by decide +kernel
theorem dX8_order_299 : decode cX8_order 299 = .ok (.invokevirtual 156, 3) := by decide +kernel
theorem dX8_order_302 : decode cX8_order 302 = .ok (.istore_n 2, 1) := by decide +kernel
theorem dX8_order_303 : decode cX8_order 303 = .ok (.iload_n 1, 1) := by decide +kernel
theorem dX8_order_304 : decode cX8_order 304 = .ok (.ifCond .eq 11, 3) := by decide +kernel
theorem dX8_order_307 : decode cX8_order 307 = .ok (.aload_n 0, 1) := by decide +kernel
theorem dX8_order_308 : decode cX8_order 308 = .ok (.iload_n 2, 1) := by decide +kernel
theorem dX8_order_309 : decode cX8_order 309 = .ok (.invokevirtual 106, 3) := by decide +kernel
theorem dX8_order_312 : decode cX8_order 312 = .ok (.goto 4, 3) := by decide +kernel
theorem dX8_order_315 : decode cX8_order 315 = .ok (.iconst 0, 1) := by decide +kernel
theorem dX8_order_316 : decode cX8_order 316 = .ok (.ireturn, 1) := by decide +kernel
theorem dX8_go_0 : decode cX8_go 0 = .ok (.aload_n 0, 1) := by decide +kernel
theorem dX8_go_1 : decode cX8_go 1 = .ok (.iconst 0, 1) := by decide +kernel
theorem dX8_go_2 : decode cX8_go 2 = .ok (.putfield 127, 3) := by decide +kernel
theorem dX8_go_5 : decode cX8_go 5 = .ok (.aload_n 0, 1) := by decide +kernel
theorem dX8_go_6 : decode cX8_go 6 = .ok (.iconst 0, 1) := by decide +kernel
theorem dX8_go_7 : decode cX8_go 7 = .ok (.putfield 130, 3) := by decide +kernel
theorem dX8_go_10 : decode cX8_go 10 = .ok (.iconst 0, 1) := by decide +kernel
theorem dX8_go_11 : decode cX8_go 11 = .ok (.istore_n 2, 1) := by decide +kernel
theorem dX8_go_12 : decode cX8_go 12 = .ok (.iconst 1, 1) := by decide +kernel
theorem dX8_go_13 : decode cX8_go 13 = .ok (.istore_n 3, 1) := by decide +kernel
theorem dX8_go_14 : decode cX8_go 14 = .ok (.iload_n 3, 1) := by decide +kernel
theorem dX8_go_15 : decode cX8_go 15 = .ok (.ifCond .eq 82, 3) := by decide +kernel
theorem dX8_go_18 : decode cX8_go 18 = .ok (.aload_n 0, 1) := by decide +kernel
theorem dX8_go_19 : decode cX8_go 19 = .ok (.iload_n 1, 1) := by decide +kernel
theorem dX8_go_20 : decode cX8_go 20 = .ok (.invokevirtual 159, 3) := by decide +kernel
theorem dX8_go_23 : decode cX8_go 23 = .ok (.istore 4, 2) := by decide +kernel
theorem dX8_go_25 : decode cX8_go 25 = .ok (.iload 4, 2) := by decide +kernel
theorem dX8_go_27 : decode cX8_go 27 = .ok (.ifCond .ge 13, 3) := by decide +kernel
theorem dX8_go_30 : decode cX8_go 30 = .ok (.iload 4, 2) := by decide +kernel
theorem dX8_go_32 : decode cX8_go 32 = .ok (.bipush (-5), 2) := by decide +kernel
theorem dX8_go_34 : decode cX8_go 34 = .ok (.if_icmp .eq 6, 3) := by decide +kernel
theorem dX8_go_37 : decode cX8_go 37 = .ok (.iload 4, 2) := by decide +kernel
theorem dX8_go_39 : decode cX8_go 39 = .ok (.ireturn, 1) := by decide +kernel
theorem dX8_go_40 : decode cX8_go 40 = .ok (.iinc 2 1, 3) := by decide +kernel
theorem dX8_go_43 : decode cX8_go 43 = .ok (.aload_n 0, 1) := by decide +kernel
theorem dX8_go_44 : decode cX8_go 44 = .ok (.getfield 130, 3) := by decide +kernel
theorem dX8_go_47 : decode cX8_go 47 = .ok (.ifCond .ne 18, 3) := by decide +kernel
theorem dX8_go_50 : decode cX8_go 50 = .ok (.aload_n 0, 1) := by decide +kernel
theorem dX8_go_51 : decode cX8_go 51 = .ok (.getfield 127, 3) := by decide +kernel
theorem dX8_go_54 : decode cX8_go 54 = .ok (.aload_n 0, 1) := by decide +kernel
theorem dX8_go_55 : decode cX8_go 55 = .ok (.getfield 124, 3) := by decide +kernel
theorem dX8_go_58 : decode cX8_go 58 = .ok (.if_icmp .ge 7, 3) := by decide +kernel
theorem dX8_go_61 : decode cX8_go 61 = .ok (.iconst 1, 1) := by decide +kernel
theorem dX8_go_62 : decode cX8_go 62 = .ok (.goto 4, 3) := by decide +kernel
theorem dX8_go_65 : decode cX8_go 65 = .ok (.iconst 0, 1) := by decide +kernel
theorem dX8_go_66 : decode cX8_go 66 = .ok (.istore_n 3, 1) := by decide +kernel
theorem dX8_go_67 : decode cX8_go 67 = .ok (.iload_n 3, 1) := by decide +kernel
theorem dX8_go_68 : decode cX8_go 68 = .ok (.ifCond .eq 26, 3) := by decide +kernel
theorem dX8_go_71 : decode cX8_go 71 = .ok (.aload_n 0, 1) := by decide +kernel
theorem dX8_go_72 : decode cX8_go 72 = .ok (.bipush 59, 2) := by decide +kernel
theorem dX8_go_74 : decode cX8_go 74 = .ok (.bipush 59, 2) := by decide +kernel
theorem dX8_go_76 : decode cX8_go 76 = .ok (.invokevirtual 133, 3) := by decide +kernel
theorem dX8_go_79 : decode cX8_go 79 = .ok (.istore 5, 2) := by decide +kernel
theorem dX8_go_81 : decode cX8_go 81 = .ok (.aload_n 0, 1) := by decide +kernel
theorem dX8_go_82 : decode cX8_go 82 = .ok (.getfield 130, 3) := by decide +kernel
theorem dX8_go_85 : decode cX8_go 85 = .ok (.ifCond .ne 7, 3) := by decide +kernel
theorem dX8_go_88 : decode cX8_go 88 = .ok (.iconst 1, 1) := by decide +kernel
theorem dX8_go_89 : decode cX8_go 89 = .ok (.goto 4, 3) := by decide +kernel
theorem dX8_go_92 : decode cX8_go 92 = .ok (.iconst 0, 1) := by decide +kernel
theorem dX8_go_93 : decode cX8_go 93 = .ok (.istore_n 3, 1) := by decide +kernel
theorem dX8_go_94 : decode cX8_go 94 = .ok (.goto (-80), 3) := by decide +kernel
theorem dX8_go_97 : decode cX8_go 97 = .ok (.iload_n 2, 1) := by decide +kernel
theorem dX8_go_98 : decode cX8_go 98 = .ok (.ireturn, 1) := by decide +kernel
theorem dX8_fault_0 : decode cX8_fault 0 = .ok (.aload_n 0, 1) := by decide +kernel
theorem dX8_fault_1 : decode cX8_fault 1 = .ok (.iconst 0, 1) := by decide +kernel
theorem dX8_fault_2 : decode cX8_fault 2 = .ok (.invokevirtual 163, 3) := by decide +kernel
theorem dX8_fault_5 : decode cX8_fault 5 = .ok (.istore_n 1, 1) := by decide +kernel
theorem dX8_fault_6 : decode cX8_fault 6 = .ok (.aload_n 0, 1) := by decide +kernel
theorem dX8_fault_7 : decode cX8_fault 7 = .ok (.getfield 130, 3) := by decide +kernel
theorem dX8_fault_10 : decode cX8_fault 10 = .ok (.ifCond .eq 10, 3) := by decide +kernel
theorem dX8_fault_13 : decode cX8_fault 13 = .ok (.aload_n 0, 1) := by decide +kernel
theorem dX8_fault_14 : decode cX8_fault 14 = .ok (.getfield 127, 3) := by decide +kernel
theorem dX8_fault_17 : decode cX8_fault 17 = .ok (.goto 5, 3) := by decide +kernel
theorem dX8_fault_20 : decode cX8_fault 20 = .ok (.bipush (-5), 2) := by decide +kernel
theorem dX8_fault_22 : decode cX8_fault 22 = .ok (.ireturn, 1) := by decide +kernel
theorem dX8_doAll_0 : decode cX8_doAll 0 = .ok (.aload_n 0, 1) := by decide +kernel
theorem dX8_doAll_1 : decode cX8_doAll 1 = .ok (.iconst 0, 1) := by decide +kernel
theorem dX8_doAll_2 : decode cX8_doAll 2 = .ok (.invokevirtual 163, 3) := by decide +kernel
theorem dX8_doAll_5 : decode cX8_doAll 5 = .ok (.istore_n 1, 1) := by decide +kernel
theorem dX8_doAll_6 : decode cX8_doAll 6 = .ok (.aload_n 0, 1) := by decide +kernel
theorem dX8_doAll_7 : decode cX8_doAll 7 = .ok (.getfield 130, 3) := by decide +kernel
theorem dX8_doAll_10 : decode cX8_doAll 10 = .ok (.ifCond .eq 11, 3) := by decide +kernel
theorem dX8_doAll_13 : decode cX8_doAll 13 = .ok (.bipush (-100), 2) := by decide +kernel
theorem dX8_doAll_15 : decode cX8_doAll 15 = .ok (.aload_n 0, 1) := by decide +kernel
theorem dX8_doAll_16 : decode cX8_doAll 16 = .ok (.getfield 127, 3) := by decide +kernel
theorem dX8_doAll_19 : decode cX8_doAll 19 = .ok (.isub, 1) := by decide +kernel
theorem dX8_doAll_20 : decode cX8_doAll 20 = .ok (.ireturn, 1) := by decide +kernel
theorem dX8_doAll_21 : decode cX8_doAll 21 = .ok (.aload_n 0, 1) := by decide +kernel
theorem dX8_doAll_22 : decode cX8_doAll 22 = .ok (.invokevirtual 93, 3) := by decide +kernel
theorem dX8_doAll_25 : decode cX8_doAll 25 = .ok (.aload_n 0, 1) := by decide +kernel
theorem dX8_doAll_26 : decode cX8_doAll 26 = .ok (.aload_n 0, 1) := by decide +kernel
theorem dX8_doAll_27 : decode cX8_doAll 27 = .ok (.iconst 1, 1) := by decide +kernel
theorem dX8_doAll_28 : decode cX8_doAll 28 = .ok (.invokevirtual 163, 3) := by decide +kernel
theorem dX8_doAll_31 : decode cX8_doAll 31 = .ok (.invokevirtual 100, 3) := by decide +kernel
theorem dX8_doAll_34 : decode cX8_doAll 34 = .ok (.ireturn, 1) := by decide +kernel
theorem dX8_undo_0 : decode cX8_undo 0 = .ok (.aload_n 0, 1) := by decide +kernel
theorem dX8_undo_1 : decode cX8_undo 1 = .ok (.getfield 49, 3) := by decide +kernel
theorem dX8_undo_4 : decode cX8_undo 4 = .ok (.ifCond .ne 6, 3) := by decide +kernel
theorem dX8_undo_7 : decode cX8_undo 7 = .ok (.bipush (-5), 2) := by decide +kernel
theorem dX8_undo_9 : decode cX8_undo 9 = .ok (.ireturn, 1) := by decide +kernel
theorem dX8_undo_10 : decode cX8_undo 10 = .ok (.aload_n 0, 1) := by decide +kernel
theorem dX8_undo_11 : decode cX8_undo 11 = .ok (.dup, 1) := by decide +kernel
theorem dX8_undo_12 : decode cX8_undo 12 = .ok (.getfield 49, 3) := by decide +kernel
theorem dX8_undo_15 : decode cX8_undo 15 = .ok (.iconst 1, 1) := by decide +kernel
theorem dX8_undo_16 : decode cX8_undo 16 = .ok (.isub, 1) := by decide +kernel
theorem dX8_undo_17 : decode cX8_undo 17 = .ok (.putfield 49, 3) := by decide +kernel
theorem dX8_undo_20 : decode cX8_undo 20 = .ok (.aload_n 0, 1) := by decide +kernel
theorem dX8_undo_21 : decode cX8_undo 21 = .ok (.iconst 0, 1) := by decide +kernel
theorem dX8_undo_22 : decode cX8_undo 22 = .ok (.putfield 45, 3) := by decide +kernel
theorem dX8_undo_25 : decode cX8_undo 25 = .ok (.iconst 0, 1) := by decide +kernel
theorem dX8_undo_26 : decode cX8_undo 26 = .ok (.istore_n 1, 1) := by decide +kernel
theorem dX8_undo_27 : decode cX8_undo 27 = .ok (.iload_n 1, 1) := by decide +kernel
theorem dX8_undo_28 : decode cX8_undo 28 = .ok (.bipush 60, 2) := by decide +kernel
theorem dX8_undo_30 : decode cX8_undo 30 = .ok (.if_icmp .ge 29, 3) := by decide +kernel
theorem dX8_undo_33 : decode cX8_undo 33 = .ok (.aload_n 0, 1) := by decide +kernel
theorem dX8_undo_34 : decode cX8_undo 34 = .ok (.getfield 7, 3) := by decide +kernel
theorem dX8_undo_37 : decode cX8_undo 37 = .ok (.iload_n 1, 1) := by decide +kernel
theorem dX8_undo_38 : decode cX8_undo 38 = .ok (.aload_n 0, 1) := by decide +kernel
theorem dX8_undo_39 : decode cX8_undo 39 = .ok (.getfield 16, 3) := by decide +kernel
theorem dX8_undo_42 : decode cX8_undo 42 = .ok (.bipush 60, 2) := by decide +kernel
theorem dX8_undo_44 : decode cX8_undo 44 = .ok (.aload_n 0, 1) := by decide +kernel
theorem dX8_undo_45 : decode cX8_undo 45 = .ok (.getfield 49, 3) := by decide +kernel
theorem dX8_undo_48 : decode cX8_undo 48 = .ok (.imul, 1) := by decide +kernel
theorem dX8_undo_49 : decode cX8_undo 49 = .ok (.iload_n 1, 1) := by decide +kernel
theorem dX8_undo_50 : decode cX8_undo 50 = .ok (.iadd, 1) := by decide +kernel
theorem dX8_undo_51 : decode cX8_undo 51 = .ok (.iaload, 1) := by decide +kernel
theorem dX8_undo_52 : decode cX8_undo 52 = .ok (.iastore, 1) := by decide +kernel
theorem dX8_undo_53 : decode cX8_undo 53 = .ok (.iinc 1 1, 3) := by decide +kernel
theorem dX8_undo_56 : decode cX8_undo 56 = .ok (.goto (-29), 3) := by decide +kernel
theorem dX8_undo_59 : decode cX8_undo 59 = .ok (.aload_n 0, 1) := by decide +kernel
theorem dX8_undo_60 : decode cX8_undo 60 = .ok (.getfield 49, 3) := by decide +kernel
theorem dX8_undo_63 : decode cX8_undo 63 = .ok (.ireturn, 1) := by decide +kernel
theorem dX8_keep_0 : decode cX8_keep 0 = .ok (.iconst 0, 1) := by decide +kernel
theorem dX8_keep_1 : decode cX8_keep 1 = .ok (.istore_n 1, 1) := by decide +kernel
theorem dX8_keep_2 : decode cX8_keep 2 = .ok (.iload_n 1, 1) := by decide +kernel
theorem dX8_keep_3 : decode cX8_keep 3 = .ok (.bipush 60, 2) := by decide +kernel
theorem dX8_keep_5 : decode cX8_keep 5 = .ok (.if_icmp .ge 21, 3) := by decide +kernel
theorem dX8_keep_8 : decode cX8_keep 8 = .ok (.aload_n 0, 1) := by decide +kernel
theorem dX8_keep_9 : decode cX8_keep 9 = .ok (.getfield 19, 3) := by decide +kernel
theorem dX8_keep_12 : decode cX8_keep 12 = .ok (.iload_n 1, 1) := by decide +kernel
theorem dX8_keep_13 : decode cX8_keep 13 = .ok (.aload_n 0, 1) := by decide +kernel
theorem dX8_keep_14 : decode cX8_keep 14 = .ok (.getfield 7, 3) := by decide +kernel
theorem dX8_keep_17 : decode cX8_keep 17 = .ok (.iload_n 1, 1) := by decide +kernel
theorem dX8_keep_18 : decode cX8_keep 18 = .ok (.iaload, 1) := by decide +kernel
theorem dX8_keep_19 : decode cX8_keep 19 = .ok (.iastore, 1) := by decide +kernel
theorem dX8_keep_20 : decode cX8_keep 20 = .ok (.iinc 1 1, 3) := by decide +kernel
theorem dX8_keep_23 : decode cX8_keep 23 = .ok (.goto (-21), 3) := by decide +kernel
theorem dX8_keep_26 : decode cX8_keep 26 = .ok (.aload_n 0, 1) := by decide +kernel
theorem dX8_keep_27 : decode cX8_keep 27 = .ok (.iconst 1, 1) := by decide +kernel
theorem dX8_keep_28 : decode cX8_keep 28 = .ok (.putfield 166, 3) := by decide +kernel
theorem dX8_keep_31 : decode cX8_keep 31 = .ok (.aload_n 0, 1) := by decide +kernel
theorem dX8_keep_32 : decode cX8_keep 32 = .ok (.getfield 7, 3) := by decide +kernel
theorem dX8_keep_35 : decode cX8_keep 35 = .ok (.bipush 8, 2) := by decide +kernel
theorem dX8_keep_37 : decode cX8_keep 37 = .ok (.iaload, 1) := by decide +kernel
theorem dX8_keep_38 : decode cX8_keep 38 = .ok (.ireturn, 1) := by decide +kernel
theorem dX8_restore_0 : decode cX8_restore 0 = .ok (.aload_n 0, 1) := by decide +kernel
theorem dX8_restore_1 : decode cX8_restore 1 = .ok (.getfield 166, 3) := by decide +kernel
theorem dX8_restore_4 : decode cX8_restore 4 = .ok (.ifCond .ne 6, 3) := by decide +kernel
theorem dX8_restore_7 : decode cX8_restore 7 = .ok (.bipush (-5), 2) := by decide +kernel
theorem dX8_restore_9 : decode cX8_restore 9 = .ok (.ireturn, 1) := by decide +kernel
theorem dX8_restore_10 : decode cX8_restore 10 = .ok (.aload_n 0, 1) := by decide +kernel
theorem dX8_restore_11 : decode cX8_restore 11 = .ok (.invokevirtual 93, 3) := by decide +kernel
theorem dX8_restore_14 : decode cX8_restore 14 = .ok (.iconst 0, 1) := by decide +kernel
theorem dX8_restore_15 : decode cX8_restore 15 = .ok (.istore_n 1, 1) := by decide +kernel
theorem dX8_restore_16 : decode cX8_restore 16 = .ok (.iload_n 1, 1) := by decide +kernel
theorem dX8_restore_17 : decode cX8_restore 17 = .ok (.bipush 60, 2) := by decide +kernel
theorem dX8_restore_19 : decode cX8_restore 19 = .ok (.if_icmp .ge 21, 3) := by decide +kernel
theorem dX8_restore_22 : decode cX8_restore 22 = .ok (.aload_n 0, 1) := by decide +kernel
theorem dX8_restore_23 : decode cX8_restore 23 = .ok (.getfield 7, 3) := by decide +kernel
theorem dX8_restore_26 : decode cX8_restore 26 = .ok (.iload_n 1, 1) := by decide +kernel
theorem dX8_restore_27 : decode cX8_restore 27 = .ok (.aload_n 0, 1) := by decide +kernel
theorem dX8_restore_28 : decode cX8_restore 28 = .ok (.getfield 19, 3) := by decide +kernel
theorem dX8_restore_31 : decode cX8_restore 31 = .ok (.iload_n 1, 1) := by decide +kernel
theorem dX8_restore_32 : decode cX8_restore 32 = .ok (.iaload, 1) := by decide +kernel
theorem dX8_restore_33 : decode cX8_restore 33 = .ok (.iastore, 1) := by decide +kernel
theorem dX8_restore_34 : decode cX8_restore 34 = .ok (.iinc 1 1, 3) := by decide +kernel
theorem dX8_restore_37 : decode cX8_restore 37 = .ok (.goto (-21), 3) := by decide +kernel
theorem dX8_restore_40 : decode cX8_restore 40 = .ok (.aload_n 0, 1) := by decide +kernel
theorem dX8_restore_41 : decode cX8_restore 41 = .ok (.aload_n 0, 1) := by decide +kernel
theorem dX8_restore_42 : decode cX8_restore 42 = .ok (.getfield 7, 3) := by decide +kernel
theorem dX8_restore_45 : decode cX8_restore 45 = .ok (.bipush 8, 2) := by decide +kernel
theorem dX8_restore_47 : decode cX8_restore 47 = .ok (.iaload, 1) := by decide +kernel
theorem dX8_restore_48 : decode cX8_restore 48 = .ok (.invokevirtual 100, 3) := by decide +kernel
theorem dX8_restore_51 : decode cX8_restore 51 = .ok (.ireturn, 1) := by decide +kernel
theorem dX8_told_0 : decode cX8_told 0 = .ok (.iload_n 2, 1) := by decide +kernel
theorem dX8_told_1 : decode cX8_told 1 = .ok (.tableswitch 62 0 3 #[31, 36, 42, 48], 31) := by decide +kernel
theorem dX8_told_32 : decode cX8_told 32 = .ok (.iload_n 1, 1) := by decide +kernel
theorem dX8_told_33 : decode cX8_told 33 = .ok (.invokestatic 79, 3) := by decide +kernel
theorem dX8_told_36 : decode cX8_told 36 = .ok (.ireturn, 1) := by decide +kernel
theorem dX8_told_37 : decode cX8_told 37 = .ok (.aload_n 0, 1) := by decide +kernel
theorem dX8_told_38 : decode cX8_told 38 = .ok (.iload_n 1, 1) := by decide +kernel
theorem dX8_told_39 : decode cX8_told 39 = .ok (.invokevirtual 70, 3) := by decide +kernel
theorem dX8_told_42 : decode cX8_told 42 = .ok (.ireturn, 1) := by decide +kernel
theorem dX8_told_43 : decode cX8_told 43 = .ok (.aload_n 0, 1) := by decide +kernel
theorem dX8_told_44 : decode cX8_told 44 = .ok (.iload_n 1, 1) := by decide +kernel
theorem dX8_told_45 : decode cX8_told 45 = .ok (.invokevirtual 67, 3) := by decide +kernel
theorem dX8_told_48 : decode cX8_told 48 = .ok (.ireturn, 1) := by decide +kernel
theorem dX8_told_49 : decode cX8_told 49 = .ok (.aload_n 0, 1) := by decide +kernel
theorem dX8_told_50 : decode cX8_told 50 = .ok (.iload_n 1, 1) := by decide +kernel
theorem dX8_told_51 : decode cX8_told 51 = .ok (.invokevirtual 67, 3) := by decide +kernel
theorem dX8_told_54 : decode cX8_told 54 = .ok (.ifCond .ne 7, 3) := by decide +kernel
theorem dX8_told_57 : decode cX8_told 57 = .ok (.iconst 1, 1) := by decide +kernel
theorem dX8_told_58 : decode cX8_told 58 = .ok (.goto 4, 3) := by decide +kernel
theorem dX8_told_61 : decode cX8_told 61 = .ok (.iconst 0, 1) := by decide +kernel
theorem dX8_told_62 : decode cX8_told 62 = .ok (.ireturn, 1) := by decide +kernel
theorem dX8_told_63 : decode cX8_told 63 = .ok (.aload_n 0, 1) := by decide +kernel
theorem dX8_told_64 : decode cX8_told 64 = .ok (.iload_n 1, 1) := by decide +kernel
theorem dX8_told_65 : decode cX8_told 65 = .ok (.invokevirtual 169, 3) := by decide +kernel
theorem dX8_told_68 : decode cX8_told 68 = .ok (.ireturn, 1) := by decide +kernel
theorem dX8_jarOf_0 : decode cX8_jarOf 0 = .ok (.aload_n 0, 1) := by decide +kernel
theorem dX8_jarOf_1 : decode cX8_jarOf 1 = .ok (.iload_n 1, 1) := by decide +kernel
theorem dX8_jarOf_2 : decode cX8_jarOf 2 = .ok (.invokevirtual 82, 3) := by decide +kernel
theorem dX8_jarOf_5 : decode cX8_jarOf 5 = .ok (.istore_n 3, 1) := by decide +kernel
theorem dX8_jarOf_6 : decode cX8_jarOf 6 = .ok (.iload_n 3, 1) := by decide +kernel
theorem dX8_jarOf_7 : decode cX8_jarOf 7 = .ok (.bipush (-5), 2) := by decide +kernel
theorem dX8_jarOf_9 : decode cX8_jarOf 9 = .ok (.if_icmp .ne 5, 3) := by decide +kernel
theorem dX8_jarOf_12 : decode cX8_jarOf 12 = .ok (.iconst (-1), 1) := by decide +kernel
theorem dX8_jarOf_13 : decode cX8_jarOf 13 = .ok (.ireturn, 1) := by decide +kernel
theorem dX8_jarOf_14 : decode cX8_jarOf 14 = .ok (.iload_n 2, 1) := by decide +kernel
theorem dX8_jarOf_15 : decode cX8_jarOf 15 = .ok (.iconst 0, 1) := by decide +kernel
theorem dX8_jarOf_16 : decode cX8_jarOf 16 = .ok (.bipush 6, 2) := by decide +kernel
theorem dX8_jarOf_18 : decode cX8_jarOf 18 = .ok (.invokestatic 41, 3) := by decide +kernel
theorem dX8_jarOf_21 : decode cX8_jarOf 21 = .ok (.ifCond .ne 6, 3) := by decide +kernel
theorem dX8_jarOf_24 : decode cX8_jarOf 24 = .ok (.bipush (-2), 2) := by decide +kernel
theorem dX8_jarOf_26 : decode cX8_jarOf 26 = .ok (.ireturn, 1) := by decide +kernel
theorem dX8_jarOf_27 : decode cX8_jarOf 27 = .ok (.aload_n 0, 1) := by decide +kernel
theorem dX8_jarOf_28 : decode cX8_jarOf 28 = .ok (.iload_n 3, 1) := by decide +kernel
theorem dX8_jarOf_29 : decode cX8_jarOf 29 = .ok (.invokevirtual 76, 3) := by decide +kernel
theorem dX8_jarOf_32 : decode cX8_jarOf 32 = .ok (.istore 4, 2) := by decide +kernel
theorem dX8_jarOf_34 : decode cX8_jarOf 34 = .ok (.iload_n 2, 1) := by decide +kernel
theorem dX8_jarOf_35 : decode cX8_jarOf 35 = .ok (.ifCond .ne 8, 3) := by decide +kernel
theorem dX8_jarOf_38 : decode cX8_jarOf 38 = .ok (.iload 4, 2) := by decide +kernel
theorem dX8_jarOf_40 : decode cX8_jarOf 40 = .ok (.goto 31, 3) := by decide +kernel
theorem dX8_jarOf_43 : decode cX8_jarOf 43 = .ok (.iload_n 2, 1) := by decide +kernel
theorem dX8_jarOf_44 : decode cX8_jarOf 44 = .ok (.bipush 6, 2) := by decide +kernel
theorem dX8_jarOf_46 : decode cX8_jarOf 46 = .ok (.if_icmp .ne 16, 3) := by decide +kernel
theorem dX8_jarOf_49 : decode cX8_jarOf 49 = .ok (.aload_n 0, 1) := by decide +kernel
theorem dX8_jarOf_50 : decode cX8_jarOf 50 = .ok (.aload_n 0, 1) := by decide +kernel
theorem dX8_jarOf_51 : decode cX8_jarOf 51 = .ok (.iload 4, 2) := by decide +kernel
theorem dX8_jarOf_53 : decode cX8_jarOf 53 = .ok (.invokevirtual 169, 3) := by decide +kernel
theorem dX8_jarOf_56 : decode cX8_jarOf 56 = .ok (.invokevirtual 70, 3) := by decide +kernel
theorem dX8_jarOf_59 : decode cX8_jarOf 59 = .ok (.goto 12, 3) := by decide +kernel
theorem dX8_jarOf_62 : decode cX8_jarOf 62 = .ok (.aload_n 0, 1) := by decide +kernel
theorem dX8_jarOf_63 : decode cX8_jarOf 63 = .ok (.iload 4, 2) := by decide +kernel
theorem dX8_jarOf_65 : decode cX8_jarOf 65 = .ok (.iload_n 2, 1) := by decide +kernel
theorem dX8_jarOf_66 : decode cX8_jarOf 66 = .ok (.iconst 1, 1) := by decide +kernel
theorem dX8_jarOf_67 : decode cX8_jarOf 67 = .ok (.isub, 1) := by decide +kernel
theorem dX8_jarOf_68 : decode cX8_jarOf 68 = .ok (.invokevirtual 172, 3) := by decide +kernel
theorem dX8_jarOf_71 : decode cX8_jarOf 71 = .ok (.ireturn, 1) := by decide +kernel
theorem dX8_ranked_0 : decode cX8_ranked 0 = .ok (.iload_n 1, 1) := by decide +kernel
theorem dX8_ranked_1 : decode cX8_ranked 1 = .ok (.ifCond .ge 8, 3) := by decide +kernel
theorem dX8_ranked_4 : decode cX8_ranked 4 = .ok (.bipush (-2), 2) := by decide +kernel
theorem dX8_ranked_6 : decode cX8_ranked 6 = .ok (.goto 24, 3) := by decide +kernel
theorem dX8_ranked_9 : decode cX8_ranked 9 = .ok (.iload_n 1, 1) := by decide +kernel
theorem dX8_ranked_10 : decode cX8_ranked 10 = .ok (.aload_n 0, 1) := by decide +kernel
theorem dX8_ranked_11 : decode cX8_ranked 11 = .ok (.getfield 7, 3) := by decide +kernel
theorem dX8_ranked_14 : decode cX8_ranked 14 = .ok (.bipush 8, 2) := by decide +kernel
theorem dX8_ranked_16 : decode cX8_ranked 16 = .ok (.iaload, 1) := by decide +kernel
theorem dX8_ranked_17 : decode cX8_ranked 17 = .ok (.if_icmp .ge 11, 3) := by decide +kernel
theorem dX8_ranked_20 : decode cX8_ranked 20 = .ok (.aload_n 0, 1) := by decide +kernel
theorem dX8_ranked_21 : decode cX8_ranked 21 = .ok (.iload_n 1, 1) := by decide +kernel
theorem dX8_ranked_22 : decode cX8_ranked 22 = .ok (.invokevirtual 73, 3) := by decide +kernel
theorem dX8_ranked_25 : decode cX8_ranked 25 = .ok (.goto 5, 3) := by decide +kernel
theorem dX8_ranked_28 : decode cX8_ranked 28 = .ok (.bipush (-5), 2) := by decide +kernel
theorem dX8_ranked_30 : decode cX8_ranked 30 = .ok (.ireturn, 1) := by decide +kernel
theorem dX8_ruleOf_0 : decode cX8_ruleOf 0 = .ok (.iload_n 1, 1) := by decide +kernel
theorem dX8_ruleOf_1 : decode cX8_ruleOf 1 = .ok (.iconst 0, 1) := by decide +kernel
theorem dX8_ruleOf_2 : decode cX8_ruleOf 2 = .ok (.aload_n 0, 1) := by decide +kernel
theorem dX8_ruleOf_3 : decode cX8_ruleOf 3 = .ok (.getfield 7, 3) := by decide +kernel
theorem dX8_ruleOf_6 : decode cX8_ruleOf 6 = .ok (.bipush 34, 2) := by decide +kernel
theorem dX8_ruleOf_8 : decode cX8_ruleOf 8 = .ok (.iaload, 1) := by decide +kernel
theorem dX8_ruleOf_9 : decode cX8_ruleOf 9 = .ok (.iconst 1, 1) := by decide +kernel
theorem dX8_ruleOf_10 : decode cX8_ruleOf 10 = .ok (.isub, 1) := by decide +kernel
theorem dX8_ruleOf_11 : decode cX8_ruleOf 11 = .ok (.invokestatic 41, 3) := by decide +kernel
theorem dX8_ruleOf_14 : decode cX8_ruleOf 14 = .ok (.ifCond .eq 15, 3) := by decide +kernel
theorem dX8_ruleOf_17 : decode cX8_ruleOf 17 = .ok (.aload_n 0, 1) := by decide +kernel
theorem dX8_ruleOf_18 : decode cX8_ruleOf 18 = .ok (.getfield 7, 3) := by decide +kernel
theorem dX8_ruleOf_21 : decode cX8_ruleOf 21 = .ok (.bipush 35, 2) := by decide +kernel
theorem dX8_ruleOf_23 : decode cX8_ruleOf 23 = .ok (.iload_n 1, 1) := by decide +kernel
theorem dX8_ruleOf_24 : decode cX8_ruleOf 24 = .ok (.iadd, 1) := by decide +kernel
theorem dX8_ruleOf_25 : decode cX8_ruleOf 25 = .ok (.iaload, 1) := by decide +kernel
theorem dX8_ruleOf_26 : decode cX8_ruleOf 26 = .ok (.goto 4, 3) := by decide +kernel
theorem dX8_ruleOf_29 : decode cX8_ruleOf 29 = .ok (.iconst (-1), 1) := by decide +kernel
theorem dX8_ruleOf_30 : decode cX8_ruleOf 30 = .ok (.ireturn, 1) := by decide +kernel
theorem dX8_mixOf_0 : decode cX8_mixOf 0 = .ok (.iload_n 1, 1) := by decide +kernel
theorem dX8_mixOf_1 : decode cX8_mixOf 1 = .ok (.invokestatic 89, 3) := by decide +kernel
theorem dX8_mixOf_4 : decode cX8_mixOf 4 = .ok (.ifCond .eq 13, 3) := by decide +kernel
theorem dX8_mixOf_7 : decode cX8_mixOf 7 = .ok (.iload_n 2, 1) := by decide +kernel
theorem dX8_mixOf_8 : decode cX8_mixOf 8 = .ok (.iconst 0, 1) := by decide +kernel
theorem dX8_mixOf_9 : decode cX8_mixOf 9 = .ok (.bipush 6, 2) := by decide +kernel
theorem dX8_mixOf_11 : decode cX8_mixOf 11 = .ok (.invokestatic 41, 3) := by decide +kernel
theorem dX8_mixOf_14 : decode cX8_mixOf 14 = .ok (.ifCond .ne 6, 3) := by decide +kernel
theorem dX8_mixOf_17 : decode cX8_mixOf 17 = .ok (.bipush (-2), 2) := by decide +kernel
theorem dX8_mixOf_19 : decode cX8_mixOf 19 = .ok (.ireturn, 1) := by decide +kernel
theorem dX8_mixOf_20 : decode cX8_mixOf 20 = .ok (.iload_n 2, 1) := by decide +kernel
theorem dX8_mixOf_21 : decode cX8_mixOf 21 = .ok (.iconst 5, 1) := by decide +kernel
theorem dX8_mixOf_22 : decode cX8_mixOf 22 = .ok (.if_icmp .ne 11, 3) := by decide +kernel
theorem dX8_mixOf_25 : decode cX8_mixOf 25 = .ok (.iload_n 1, 1) := by decide +kernel
theorem dX8_mixOf_26 : decode cX8_mixOf 26 = .ok (.iload_n 1, 1) := by decide +kernel
theorem dX8_mixOf_27 : decode cX8_mixOf 27 = .ok (.invokestatic 53, 3) := by decide +kernel
theorem dX8_mixOf_30 : decode cX8_mixOf 30 = .ok (.goto 23, 3) := by decide +kernel
theorem dX8_mixOf_33 : decode cX8_mixOf 33 = .ok (.iload_n 2, 1) := by decide +kernel
theorem dX8_mixOf_34 : decode cX8_mixOf 34 = .ok (.bipush 6, 2) := by decide +kernel
theorem dX8_mixOf_36 : decode cX8_mixOf 36 = .ok (.if_icmp .ne 11, 3) := by decide +kernel
theorem dX8_mixOf_39 : decode cX8_mixOf 39 = .ok (.aload_n 0, 1) := by decide +kernel
theorem dX8_mixOf_40 : decode cX8_mixOf 40 = .ok (.iload_n 1, 1) := by decide +kernel
theorem dX8_mixOf_41 : decode cX8_mixOf 41 = .ok (.invokevirtual 175, 3) := by decide +kernel
theorem dX8_mixOf_44 : decode cX8_mixOf 44 = .ok (.goto 9, 3) := by decide +kernel
theorem dX8_mixOf_47 : decode cX8_mixOf 47 = .ok (.aload_n 0, 1) := by decide +kernel
theorem dX8_mixOf_48 : decode cX8_mixOf 48 = .ok (.iload_n 1, 1) := by decide +kernel
theorem dX8_mixOf_49 : decode cX8_mixOf 49 = .ok (.iload_n 2, 1) := by decide +kernel
theorem dX8_mixOf_50 : decode cX8_mixOf 50 = .ok (.invokevirtual 172, 3) := by decide +kernel
theorem dX8_mixOf_53 : decode cX8_mixOf 53 = .ok (.ireturn, 1) := by decide +kernel
theorem dX8_together_0 : decode cX8_together 0 = .ok (.iload_n 1, 1) := by decide +kernel
theorem dX8_together_1 : decode cX8_together 1 = .ok (.invokestatic 89, 3) := by decide +kernel
theorem dX8_together_4 : decode cX8_together 4 = .ok (.ifCond .eq 18, 3) := by decide +kernel
theorem dX8_together_7 : decode cX8_together 7 = .ok (.iload_n 2, 1) := by decide +kernel
theorem dX8_together_8 : decode cX8_together 8 = .ok (.invokestatic 89, 3) := by decide +kernel
theorem dX8_together_11 : decode cX8_together 11 = .ok (.ifCond .eq 11, 3) := by decide +kernel
theorem dX8_together_14 : decode cX8_together 14 = .ok (.iload_n 1, 1) := by decide +kernel
theorem dX8_together_15 : decode cX8_together 15 = .ok (.iload_n 2, 1) := by decide +kernel
theorem dX8_together_16 : decode cX8_together 16 = .ok (.invokestatic 53, 3) := by decide +kernel
theorem dX8_together_19 : decode cX8_together 19 = .ok (.goto 5, 3) := by decide +kernel
theorem dX8_together_22 : decode cX8_together 22 = .ok (.bipush (-2), 2) := by decide +kernel
theorem dX8_together_24 : decode cX8_together 24 = .ok (.ireturn, 1) := by decide +kernel
theorem dX8_alike_0 : decode cX8_alike 0 = .ok (.iload_n 1, 1) := by decide +kernel
theorem dX8_alike_1 : decode cX8_alike 1 = .ok (.invokestatic 89, 3) := by decide +kernel
theorem dX8_alike_4 : decode cX8_alike 4 = .ok (.ifCond .eq 10, 3) := by decide +kernel
theorem dX8_alike_7 : decode cX8_alike 7 = .ok (.iload_n 2, 1) := by decide +kernel
theorem dX8_alike_8 : decode cX8_alike 8 = .ok (.invokestatic 89, 3) := by decide +kernel
theorem dX8_alike_11 : decode cX8_alike 11 = .ok (.ifCond .ne 6, 3) := by decide +kernel
theorem dX8_alike_14 : decode cX8_alike 14 = .ok (.bipush (-2), 2) := by decide +kernel
theorem dX8_alike_16 : decode cX8_alike 16 = .ok (.ireturn, 1) := by decide +kernel
theorem dX8_alike_17 : decode cX8_alike 17 = .ok (.iload_n 3, 1) := by decide +kernel
theorem dX8_alike_18 : decode cX8_alike 18 = .ok (.ifCond .eq 27, 3) := by decide +kernel
theorem dX8_alike_21 : decode cX8_alike 21 = .ok (.aload_n 0, 1) := by decide +kernel
theorem dX8_alike_22 : decode cX8_alike 22 = .ok (.iload_n 2, 1) := by decide +kernel
theorem dX8_alike_23 : decode cX8_alike 23 = .ok (.iload_n 1, 1) := by decide +kernel
theorem dX8_alike_24 : decode cX8_alike 24 = .ok (.iload_n 1, 1) := by decide +kernel
theorem dX8_alike_25 : decode cX8_alike 25 = .ok (.invokestatic 53, 3) := by decide +kernel
theorem dX8_alike_28 : decode cX8_alike 28 = .ok (.invokestatic 53, 3) := by decide +kernel
theorem dX8_alike_31 : decode cX8_alike 31 = .ok (.invokevirtual 67, 3) := by decide +kernel
theorem dX8_alike_34 : decode cX8_alike 34 = .ok (.ifCond .ne 7, 3) := by decide +kernel
theorem dX8_alike_37 : decode cX8_alike 37 = .ok (.iconst 1, 1) := by decide +kernel
theorem dX8_alike_38 : decode cX8_alike 38 = .ok (.goto 25, 3) := by decide +kernel
theorem dX8_alike_41 : decode cX8_alike 41 = .ok (.iconst 0, 1) := by decide +kernel
theorem dX8_alike_42 : decode cX8_alike 42 = .ok (.goto 21, 3) := by decide +kernel
theorem dX8_alike_45 : decode cX8_alike 45 = .ok (.aload_n 0, 1) := by decide +kernel
theorem dX8_alike_46 : decode cX8_alike 46 = .ok (.iload_n 1, 1) := by decide +kernel
theorem dX8_alike_47 : decode cX8_alike 47 = .ok (.invokevirtual 67, 3) := by decide +kernel
theorem dX8_alike_50 : decode cX8_alike 50 = .ok (.aload_n 0, 1) := by decide +kernel
theorem dX8_alike_51 : decode cX8_alike 51 = .ok (.iload_n 2, 1) := by decide +kernel
theorem dX8_alike_52 : decode cX8_alike 52 = .ok (.invokevirtual 67, 3) := by decide +kernel
theorem dX8_alike_55 : decode cX8_alike 55 = .ok (.if_icmp .ne 7, 3) := by decide +kernel
theorem dX8_alike_58 : decode cX8_alike 58 = .ok (.iconst 1, 1) := by decide +kernel
theorem dX8_alike_59 : decode cX8_alike 59 = .ok (.goto 4, 3) := by decide +kernel
theorem dX8_alike_62 : decode cX8_alike 62 = .ok (.iconst 0, 1) := by decide +kernel
theorem dX8_alike_63 : decode cX8_alike 63 = .ok (.istore 4, 2) := by decide +kernel
theorem dX8_alike_65 : decode cX8_alike 65 = .ok (.iload 4, 2) := by decide +kernel
theorem dX8_alike_67 : decode cX8_alike 67 = .ok (.ifCond .eq 7, 3) := by decide +kernel
theorem dX8_alike_70 : decode cX8_alike 70 = .ok (.iconst 1, 1) := by decide +kernel
theorem dX8_alike_71 : decode cX8_alike 71 = .ok (.goto 4, 3) := by decide +kernel
theorem dX8_alike_74 : decode cX8_alike 74 = .ok (.iconst 0, 1) := by decide +kernel
theorem dX8_alike_75 : decode cX8_alike 75 = .ok (.ireturn, 1) := by decide +kernel
theorem dX8_nextShelf_0 : decode cX8_nextShelf 0 = .ok (.bipush (-5), 2) := by decide +kernel
theorem dX8_nextShelf_2 : decode cX8_nextShelf 2 = .ok (.istore_n 2, 1) := by decide +kernel
theorem dX8_nextShelf_3 : decode cX8_nextShelf 3 = .ok (.iconst 0, 1) := by decide +kernel
theorem dX8_nextShelf_4 : decode cX8_nextShelf 4 = .ok (.istore_n 3, 1) := by decide +kernel
theorem dX8_nextShelf_5 : decode cX8_nextShelf 5 = .ok (.iload_n 3, 1) := by decide +kernel
theorem dX8_nextShelf_6 : decode cX8_nextShelf 6 = .ok (.aload_n 0, 1) := by decide +kernel
theorem dX8_nextShelf_7 : decode cX8_nextShelf 7 = .ok (.getfield 7, 3) := by decide +kernel
theorem dX8_nextShelf_10 : decode cX8_nextShelf 10 = .ok (.bipush 8, 2) := by decide +kernel
theorem dX8_nextShelf_12 : decode cX8_nextShelf 12 = .ok (.iaload, 1) := by decide +kernel
theorem dX8_nextShelf_13 : decode cX8_nextShelf 13 = .ok (.if_icmp .ge 45, 3) := by decide +kernel
theorem dX8_nextShelf_16 : decode cX8_nextShelf 16 = .ok (.aload_n 0, 1) := by decide +kernel
theorem dX8_nextShelf_17 : decode cX8_nextShelf 17 = .ok (.aload_n 0, 1) := by decide +kernel
theorem dX8_nextShelf_18 : decode cX8_nextShelf 18 = .ok (.iload_n 3, 1) := by decide +kernel
theorem dX8_nextShelf_19 : decode cX8_nextShelf 19 = .ok (.invokevirtual 76, 3) := by decide +kernel
theorem dX8_nextShelf_22 : decode cX8_nextShelf 22 = .ok (.invokevirtual 67, 3) := by decide +kernel
theorem dX8_nextShelf_25 : decode cX8_nextShelf 25 = .ok (.istore 4, 2) := by decide +kernel
theorem dX8_nextShelf_27 : decode cX8_nextShelf 27 = .ok (.iload 4, 2) := by decide +kernel
theorem dX8_nextShelf_29 : decode cX8_nextShelf 29 = .ok (.iload_n 1, 1) := by decide +kernel
theorem dX8_nextShelf_30 : decode cX8_nextShelf 30 = .ok (.if_icmp .le 20, 3) := by decide +kernel
theorem dX8_nextShelf_33 : decode cX8_nextShelf 33 = .ok (.iload_n 2, 1) := by decide +kernel
theorem dX8_nextShelf_34 : decode cX8_nextShelf 34 = .ok (.bipush (-5), 2) := by decide +kernel
theorem dX8_nextShelf_36 : decode cX8_nextShelf 36 = .ok (.if_icmp .eq 9, 3) := by decide +kernel
theorem dX8_nextShelf_39 : decode cX8_nextShelf 39 = .ok (.iload 4, 2) := by decide +kernel
theorem dX8_nextShelf_41 : decode cX8_nextShelf 41 = .ok (.iload_n 2, 1) := by decide +kernel
theorem dX8_nextShelf_42 : decode cX8_nextShelf 42 = .ok (.if_icmp .ge 8, 3) := by decide +kernel
theorem dX8_nextShelf_45 : decode cX8_nextShelf 45 = .ok (.iload 4, 2) := by decide +kernel
theorem dX8_nextShelf_47 : decode cX8_nextShelf 47 = .ok (.goto 4, 3) := by decide +kernel
theorem dX8_nextShelf_50 : decode cX8_nextShelf 50 = .ok (.iload_n 2, 1) := by decide +kernel
theorem dX8_nextShelf_51 : decode cX8_nextShelf 51 = .ok (.istore_n 2, 1) := by decide +kernel
theorem dX8_nextShelf_52 : decode cX8_nextShelf 52 = .ok (.iinc 3 1, 3) := by decide +kernel
theorem dX8_nextShelf_55 : decode cX8_nextShelf 55 = .ok (.goto (-50), 3) := by decide +kernel
theorem dX8_nextShelf_58 : decode cX8_nextShelf 58 = .ok (.iload_n 2, 1) := by decide +kernel
theorem dX8_nextShelf_59 : decode cX8_nextShelf 59 = .ok (.ireturn, 1) := by decide +kernel
theorem dX8_shelf_0 : decode cX8_shelf 0 = .ok (.iload_n 1, 1) := by decide +kernel
theorem dX8_shelf_1 : decode cX8_shelf 1 = .ok (.ifCond .lt 12, 3) := by decide +kernel
theorem dX8_shelf_4 : decode cX8_shelf 4 = .ok (.iload_n 2, 1) := by decide +kernel
theorem dX8_shelf_5 : decode cX8_shelf 5 = .ok (.iconst 0, 1) := by decide +kernel
theorem dX8_shelf_6 : decode cX8_shelf 6 = .ok (.iconst 3, 1) := by decide +kernel
theorem dX8_shelf_7 : decode cX8_shelf 7 = .ok (.invokestatic 41, 3) := by decide +kernel
theorem dX8_shelf_10 : decode cX8_shelf 10 = .ok (.ifCond .ne 6, 3) := by decide +kernel
theorem dX8_shelf_13 : decode cX8_shelf 13 = .ok (.bipush (-2), 2) := by decide +kernel
theorem dX8_shelf_15 : decode cX8_shelf 15 = .ok (.ireturn, 1) := by decide +kernel
theorem dX8_shelf_16 : decode cX8_shelf 16 = .ok (.aload_n 0, 1) := by decide +kernel
theorem dX8_shelf_17 : decode cX8_shelf 17 = .ok (.iconst (-1), 1) := by decide +kernel
theorem dX8_shelf_18 : decode cX8_shelf 18 = .ok (.invokevirtual 178, 3) := by decide +kernel
theorem dX8_shelf_21 : decode cX8_shelf 21 = .ok (.istore_n 3, 1) := by decide +kernel
theorem dX8_shelf_22 : decode cX8_shelf 22 = .ok (.iconst 0, 1) := by decide +kernel
theorem dX8_shelf_23 : decode cX8_shelf 23 = .ok (.istore 4, 2) := by decide +kernel
theorem dX8_shelf_25 : decode cX8_shelf 25 = .ok (.iload 4, 2) := by decide +kernel
theorem dX8_shelf_27 : decode cX8_shelf 27 = .ok (.iload_n 1, 1) := by decide +kernel
theorem dX8_shelf_28 : decode cX8_shelf 28 = .ok (.if_icmp .ge 21, 3) := by decide +kernel
theorem dX8_shelf_31 : decode cX8_shelf 31 = .ok (.iload_n 3, 1) := by decide +kernel
theorem dX8_shelf_32 : decode cX8_shelf 32 = .ok (.bipush (-5), 2) := by decide +kernel
theorem dX8_shelf_34 : decode cX8_shelf 34 = .ok (.if_icmp .eq 15, 3) := by decide +kernel
theorem dX8_shelf_37 : decode cX8_shelf 37 = .ok (.aload_n 0, 1) := by decide +kernel
theorem dX8_shelf_38 : decode cX8_shelf 38 = .ok (.iload_n 3, 1) := by decide +kernel
theorem dX8_shelf_39 : decode cX8_shelf 39 = .ok (.invokevirtual 178, 3) := by decide +kernel
theorem dX8_shelf_42 : decode cX8_shelf 42 = .ok (.istore_n 3, 1) := by decide +kernel
theorem dX8_shelf_43 : decode cX8_shelf 43 = .ok (.iinc 4 1, 3) := by decide +kernel
theorem dX8_shelf_46 : decode cX8_shelf 46 = .ok (.goto (-21), 3) := by decide +kernel
theorem dX8_shelf_49 : decode cX8_shelf 49 = .ok (.iload_n 3, 1) := by decide +kernel
theorem dX8_shelf_50 : decode cX8_shelf 50 = .ok (.bipush (-5), 2) := by decide +kernel
theorem dX8_shelf_52 : decode cX8_shelf 52 = .ok (.if_icmp .ne 6, 3) := by decide +kernel
theorem dX8_shelf_55 : decode cX8_shelf 55 = .ok (.bipush (-5), 2) := by decide +kernel
theorem dX8_shelf_57 : decode cX8_shelf 57 = .ok (.ireturn, 1) := by decide +kernel
theorem dX8_shelf_58 : decode cX8_shelf 58 = .ok (.bipush (-5), 2) := by decide +kernel
theorem dX8_shelf_60 : decode cX8_shelf 60 = .ok (.istore 4, 2) := by decide +kernel
theorem dX8_shelf_62 : decode cX8_shelf 62 = .ok (.bipush (-5), 2) := by decide +kernel
theorem dX8_shelf_64 : decode cX8_shelf 64 = .ok (.istore 5, 2) := by decide +kernel
theorem dX8_shelf_66 : decode cX8_shelf 66 = .ok (.iconst 0, 1) := by decide +kernel
theorem dX8_shelf_67 : decode cX8_shelf 67 = .ok (.istore 6, 2) := by decide +kernel
theorem dX8_shelf_69 : decode cX8_shelf 69 = .ok (.iload 6, 2) := by decide +kernel
theorem dX8_shelf_71 : decode cX8_shelf 71 = .ok (.aload_n 0, 1) := by decide +kernel
theorem dX8_shelf_72 : decode cX8_shelf 72 = .ok (.getfield 7, 3) := by decide +kernel
theorem dX8_shelf_75 : decode cX8_shelf 75 = .ok (.bipush 8, 2) := by decide +kernel
theorem dX8_shelf_77 : decode cX8_shelf 77 = .ok (.iaload, 1) := by decide +kernel
theorem dX8_shelf_78 : decode cX8_shelf 78 = .ok (.if_icmp .ge 78, 3) := by decide +kernel
theorem dX8_shelf_81 : decode cX8_shelf 81 = .ok (.aload_n 0, 1) := by decide +kernel
theorem dX8_shelf_82 : decode cX8_shelf 82 = .ok (.aload_n 0, 1) := by decide +kernel
theorem dX8_shelf_83 : decode cX8_shelf 83 = .ok (.iload 6, 2) := by decide +kernel
theorem dX8_shelf_85 : decode cX8_shelf 85 = .ok (.invokevirtual 76, 3) := by decide +kernel
theorem dX8_shelf_88 : decode cX8_shelf 88 = .ok (.invokevirtual 67, 3) := by decide +kernel
theorem dX8_shelf_91 : decode cX8_shelf 91 = .ok (.iload_n 3, 1) := by decide +kernel
theorem dX8_shelf_92 : decode cX8_shelf 92 = .ok (.if_icmp .ne 58, 3) := by decide +kernel
theorem dX8_shelf_95 : decode cX8_shelf 95 = .ok (.iload 4, 2) := by decide +kernel
theorem dX8_shelf_97 : decode cX8_shelf 97 = .ok (.bipush (-5), 2) := by decide +kernel
theorem dX8_shelf_99 : decode cX8_shelf 99 = .ok (.if_icmp .ne 8, 3) := by decide +kernel
theorem dX8_shelf_102 : decode cX8_shelf 102 = .ok (.iload 6, 2) := by decide +kernel
theorem dX8_shelf_104 : decode cX8_shelf 104 = .ok (.goto 5, 3) := by decide +kernel
theorem dX8_shelf_107 : decode cX8_shelf 107 = .ok (.iload 4, 2) := by decide +kernel
theorem dX8_shelf_109 : decode cX8_shelf 109 = .ok (.istore 4, 2) := by decide +kernel
theorem dX8_shelf_111 : decode cX8_shelf 111 = .ok (.iload 5, 2) := by decide +kernel
theorem dX8_shelf_113 : decode cX8_shelf 113 = .ok (.bipush (-5), 2) := by decide +kernel
theorem dX8_shelf_115 : decode cX8_shelf 115 = .ok (.if_icmp .eq 26, 3) := by decide +kernel
theorem dX8_shelf_118 : decode cX8_shelf 118 = .ok (.aload_n 0, 1) := by decide +kernel
theorem dX8_shelf_119 : decode cX8_shelf 119 = .ok (.aload_n 0, 1) := by decide +kernel
theorem dX8_shelf_120 : decode cX8_shelf 120 = .ok (.iload 6, 2) := by decide +kernel
theorem dX8_shelf_122 : decode cX8_shelf 122 = .ok (.invokevirtual 76, 3) := by decide +kernel
theorem dX8_shelf_125 : decode cX8_shelf 125 = .ok (.invokevirtual 70, 3) := by decide +kernel
theorem dX8_shelf_128 : decode cX8_shelf 128 = .ok (.aload_n 0, 1) := by decide +kernel
theorem dX8_shelf_129 : decode cX8_shelf 129 = .ok (.aload_n 0, 1) := by decide +kernel
theorem dX8_shelf_130 : decode cX8_shelf 130 = .ok (.iload 5, 2) := by decide +kernel
theorem dX8_shelf_132 : decode cX8_shelf 132 = .ok (.invokevirtual 76, 3) := by decide +kernel
theorem dX8_shelf_135 : decode cX8_shelf 135 = .ok (.invokevirtual 70, 3) := by decide +kernel
theorem dX8_shelf_138 : decode cX8_shelf 138 = .ok (.if_icmp .ge 8, 3) := by decide +kernel
theorem dX8_shelf_141 : decode cX8_shelf 141 = .ok (.iload 6, 2) := by decide +kernel
theorem dX8_shelf_143 : decode cX8_shelf 143 = .ok (.goto 5, 3) := by decide +kernel
theorem dX8_shelf_146 : decode cX8_shelf 146 = .ok (.iload 5, 2) := by decide +kernel
theorem dX8_shelf_148 : decode cX8_shelf 148 = .ok (.istore 5, 2) := by decide +kernel
theorem dX8_shelf_150 : decode cX8_shelf 150 = .ok (.iinc 6 1, 3) := by decide +kernel
theorem dX8_shelf_153 : decode cX8_shelf 153 = .ok (.goto (-84), 3) := by decide +kernel
theorem dX8_shelf_156 : decode cX8_shelf 156 = .ok (.iload_n 2, 1) := by decide +kernel
theorem dX8_shelf_157 : decode cX8_shelf 157 = .ok (.ifCond .ne 7, 3) := by decide +kernel
theorem dX8_shelf_160 : decode cX8_shelf 160 = .ok (.iload_n 3, 1) := by decide +kernel
theorem dX8_shelf_161 : decode cX8_shelf 161 = .ok (.goto 36, 3) := by decide +kernel
theorem dX8_shelf_164 : decode cX8_shelf 164 = .ok (.iload_n 2, 1) := by decide +kernel
theorem dX8_shelf_165 : decode cX8_shelf 165 = .ok (.iconst 1, 1) := by decide +kernel
theorem dX8_shelf_166 : decode cX8_shelf 166 = .ok (.if_icmp .ne 11, 3) := by decide +kernel
theorem dX8_shelf_169 : decode cX8_shelf 169 = .ok (.aload_n 0, 1) := by decide +kernel
theorem dX8_shelf_170 : decode cX8_shelf 170 = .ok (.iload_n 3, 1) := by decide +kernel
theorem dX8_shelf_171 : decode cX8_shelf 171 = .ok (.invokevirtual 175, 3) := by decide +kernel
theorem dX8_shelf_174 : decode cX8_shelf 174 = .ok (.goto 23, 3) := by decide +kernel
theorem dX8_shelf_177 : decode cX8_shelf 177 = .ok (.iload_n 2, 1) := by decide +kernel
theorem dX8_shelf_178 : decode cX8_shelf 178 = .ok (.iconst 2, 1) := by decide +kernel
theorem dX8_shelf_179 : decode cX8_shelf 179 = .ok (.if_icmp .ne 12, 3) := by decide +kernel
theorem dX8_shelf_182 : decode cX8_shelf 182 = .ok (.aload_n 0, 1) := by decide +kernel
theorem dX8_shelf_183 : decode cX8_shelf 183 = .ok (.iload 4, 2) := by decide +kernel
theorem dX8_shelf_185 : decode cX8_shelf 185 = .ok (.invokevirtual 73, 3) := by decide +kernel
theorem dX8_shelf_188 : decode cX8_shelf 188 = .ok (.goto 9, 3) := by decide +kernel
theorem dX8_shelf_191 : decode cX8_shelf 191 = .ok (.aload_n 0, 1) := by decide +kernel
theorem dX8_shelf_192 : decode cX8_shelf 192 = .ok (.iload 5, 2) := by decide +kernel
theorem dX8_shelf_194 : decode cX8_shelf 194 = .ok (.invokevirtual 73, 3) := by decide +kernel
theorem dX8_shelf_197 : decode cX8_shelf 197 = .ok (.ireturn, 1) := by decide +kernel
theorem dX8_waiting_0 : decode cX8_waiting 0 = .ok (.iload_n 1, 1) := by decide +kernel
theorem dX8_waiting_1 : decode cX8_waiting 1 = .ok (.ifCond .ge 8, 3) := by decide +kernel
theorem dX8_waiting_4 : decode cX8_waiting 4 = .ok (.bipush (-2), 2) := by decide +kernel
theorem dX8_waiting_6 : decode cX8_waiting 6 = .ok (.goto 28, 3) := by decide +kernel
theorem dX8_waiting_9 : decode cX8_waiting 9 = .ok (.iload_n 1, 1) := by decide +kernel
theorem dX8_waiting_10 : decode cX8_waiting 10 = .ok (.aload_n 0, 1) := by decide +kernel
theorem dX8_waiting_11 : decode cX8_waiting 11 = .ok (.getfield 7, 3) := by decide +kernel
theorem dX8_waiting_14 : decode cX8_waiting 14 = .ok (.bipush 43, 2) := by decide +kernel
theorem dX8_waiting_16 : decode cX8_waiting 16 = .ok (.iaload, 1) := by decide +kernel
theorem dX8_waiting_17 : decode cX8_waiting 17 = .ok (.if_icmp .ge 15, 3) := by decide +kernel
theorem dX8_waiting_20 : decode cX8_waiting 20 = .ok (.aload_n 0, 1) := by decide +kernel
theorem dX8_waiting_21 : decode cX8_waiting 21 = .ok (.getfield 7, 3) := by decide +kernel
theorem dX8_waiting_24 : decode cX8_waiting 24 = .ok (.bipush 44, 2) := by decide +kernel
theorem dX8_waiting_26 : decode cX8_waiting 26 = .ok (.iload_n 1, 1) := by decide +kernel
theorem dX8_waiting_27 : decode cX8_waiting 27 = .ok (.iadd, 1) := by decide +kernel
theorem dX8_waiting_28 : decode cX8_waiting 28 = .ok (.iaload, 1) := by decide +kernel
theorem dX8_waiting_29 : decode cX8_waiting 29 = .ok (.goto 5, 3) := by decide +kernel
theorem dX8_waiting_32 : decode cX8_waiting 32 = .ok (.bipush (-5), 2) := by decide +kernel
theorem dX8_waiting_34 : decode cX8_waiting 34 = .ok (.ireturn, 1) := by decide +kernel
theorem dX8_shelves_0 : decode cX8_shelves 0 = .ok (.iconst 0, 1) := by decide +kernel
theorem dX8_shelves_1 : decode cX8_shelves 1 = .ok (.istore_n 1, 1) := by decide +kernel
theorem dX8_shelves_2 : decode cX8_shelves 2 = .ok (.aload_n 0, 1) := by decide +kernel
theorem dX8_shelves_3 : decode cX8_shelves 3 = .ok (.iconst (-1), 1) := by decide +kernel
theorem dX8_shelves_4 : decode cX8_shelves 4 = .ok (.invokevirtual 178, 3) := by decide +kernel
theorem dX8_shelves_7 : decode cX8_shelves 7 = .ok (.istore_n 2, 1) := by decide +kernel
theorem dX8_shelves_8 : decode cX8_shelves 8 = .ok (.iload_n 2, 1) := by decide +kernel
theorem dX8_shelves_9 : decode cX8_shelves 9 = .ok (.bipush (-5), 2) := by decide +kernel
theorem dX8_shelves_11 : decode cX8_shelves 11 = .ok (.if_icmp .eq 15, 3) := by decide +kernel
theorem dX8_shelves_14 : decode cX8_shelves 14 = .ok (.iinc 1 1, 3) := by decide +kernel
theorem dX8_shelves_17 : decode cX8_shelves 17 = .ok (.aload_n 0, 1) := by decide +kernel
theorem dX8_shelves_18 : decode cX8_shelves 18 = .ok (.iload_n 2, 1) := by decide +kernel
theorem dX8_shelves_19 : decode cX8_shelves 19 = .ok (.invokevirtual 178, 3) := by decide +kernel
theorem dX8_shelves_22 : decode cX8_shelves 22 = .ok (.istore_n 2, 1) := by decide +kernel
theorem dX8_shelves_23 : decode cX8_shelves 23 = .ok (.goto (-15), 3) := by decide +kernel
theorem dX8_shelves_26 : decode cX8_shelves 26 = .ok (.iload_n 1, 1) := by decide +kernel
theorem dX8_shelves_27 : decode cX8_shelves 27 = .ok (.ireturn, 1) := by decide +kernel
theorem dX8_count_0 : decode cX8_count 0 = .ok (.iload_n 1, 1) := by decide +kernel
theorem dX8_count_1 : decode cX8_count 1 = .ok (.tableswitch 181 0 17 #[87, 95, 103, 108, 116, 127, 132, 140, 140, 140, 140, 153, 158, 158, 158, 158, 171, 176], 87) := by decide +kernel
theorem dX8_count_88 : decode cX8_count 88 = .ok (.aload_n 0, 1) := by decide +kernel
theorem dX8_count_89 : decode cX8_count 89 = .ok (.getfield 7, 3) := by decide +kernel
theorem dX8_count_92 : decode cX8_count 92 = .ok (.bipush 8, 2) := by decide +kernel
theorem dX8_count_94 : decode cX8_count 94 = .ok (.iaload, 1) := by decide +kernel
theorem dX8_count_95 : decode cX8_count 95 = .ok (.ireturn, 1) := by decide +kernel
theorem dX8_count_96 : decode cX8_count 96 = .ok (.aload_n 0, 1) := by decide +kernel
theorem dX8_count_97 : decode cX8_count 97 = .ok (.getfield 7, 3) := by decide +kernel
theorem dX8_count_100 : decode cX8_count 100 = .ok (.bipush 34, 2) := by decide +kernel
theorem dX8_count_102 : decode cX8_count 102 = .ok (.iaload, 1) := by decide +kernel
theorem dX8_count_103 : decode cX8_count 103 = .ok (.ireturn, 1) := by decide +kernel
theorem dX8_count_104 : decode cX8_count 104 = .ok (.aload_n 0, 1) := by decide +kernel
theorem dX8_count_105 : decode cX8_count 105 = .ok (.invokevirtual 112, 3) := by decide +kernel
theorem dX8_count_108 : decode cX8_count 108 = .ok (.ireturn, 1) := by decide +kernel
theorem dX8_count_109 : decode cX8_count 109 = .ok (.aload_n 0, 1) := by decide +kernel
theorem dX8_count_110 : decode cX8_count 110 = .ok (.invokevirtual 112, 3) := by decide +kernel
theorem dX8_count_113 : decode cX8_count 113 = .ok (.invokestatic 146, 3) := by decide +kernel
theorem dX8_count_116 : decode cX8_count 116 = .ok (.ireturn, 1) := by decide +kernel
theorem dX8_count_117 : decode cX8_count 117 = .ok (.bipush 8, 2) := by decide +kernel
theorem dX8_count_119 : decode cX8_count 119 = .ok (.aload_n 0, 1) := by decide +kernel
theorem dX8_count_120 : decode cX8_count 120 = .ok (.invokevirtual 112, 3) := by decide +kernel
theorem dX8_count_123 : decode cX8_count 123 = .ok (.isub, 1) := by decide +kernel
theorem dX8_count_124 : decode cX8_count 124 = .ok (.invokestatic 146, 3) := by decide +kernel
theorem dX8_count_127 : decode cX8_count 127 = .ok (.ireturn, 1) := by decide +kernel
theorem dX8_count_128 : decode cX8_count 128 = .ok (.aload_n 0, 1) := by decide +kernel
theorem dX8_count_129 : decode cX8_count 129 = .ok (.invokevirtual 181, 3) := by decide +kernel
theorem dX8_count_132 : decode cX8_count 132 = .ok (.ireturn, 1) := by decide +kernel
theorem dX8_count_133 : decode cX8_count 133 = .ok (.aload_n 0, 1) := by decide +kernel
theorem dX8_count_134 : decode cX8_count 134 = .ok (.getfield 7, 3) := by decide +kernel
theorem dX8_count_137 : decode cX8_count 137 = .ok (.bipush 43, 2) := by decide +kernel
theorem dX8_count_139 : decode cX8_count 139 = .ok (.iaload, 1) := by decide +kernel
theorem dX8_count_140 : decode cX8_count 140 = .ok (.ireturn, 1) := by decide +kernel
theorem dX8_count_141 : decode cX8_count 141 = .ok (.aload_n 0, 1) := by decide +kernel
theorem dX8_count_142 : decode cX8_count 142 = .ok (.getfield 7, 3) := by decide +kernel
theorem dX8_count_145 : decode cX8_count 145 = .ok (.bipush 52, 2) := by decide +kernel
theorem dX8_count_147 : decode cX8_count 147 = .ok (.iload_n 1, 1) := by decide +kernel
theorem dX8_count_148 : decode cX8_count 148 = .ok (.iadd, 1) := by decide +kernel
theorem dX8_count_149 : decode cX8_count 149 = .ok (.bipush 7, 2) := by decide +kernel
theorem dX8_count_151 : decode cX8_count 151 = .ok (.isub, 1) := by decide +kernel
theorem dX8_count_152 : decode cX8_count 152 = .ok (.iaload, 1) := by decide +kernel
theorem dX8_count_153 : decode cX8_count 153 = .ok (.ireturn, 1) := by decide +kernel
theorem dX8_count_154 : decode cX8_count 154 = .ok (.aload_n 0, 1) := by decide +kernel
theorem dX8_count_155 : decode cX8_count 155 = .ok (.invokevirtual 184, 3) := by decide +kernel
theorem dX8_count_158 : decode cX8_count 158 = .ok (.ireturn, 1) := by decide +kernel
theorem dX8_count_159 : decode cX8_count 159 = .ok (.aload_n 0, 1) := by decide +kernel
theorem dX8_count_160 : decode cX8_count 160 = .ok (.getfield 7, 3) := by decide +kernel
theorem dX8_count_163 : decode cX8_count 163 = .ok (.bipush 56, 2) := by decide +kernel
theorem dX8_count_165 : decode cX8_count 165 = .ok (.iload_n 1, 1) := by decide +kernel
theorem dX8_count_166 : decode cX8_count 166 = .ok (.iadd, 1) := by decide +kernel
theorem dX8_count_167 : decode cX8_count 167 = .ok (.bipush 12, 2) := by decide +kernel
theorem dX8_count_169 : decode cX8_count 169 = .ok (.isub, 1) := by decide +kernel
theorem dX8_count_170 : decode cX8_count 170 = .ok (.iaload, 1) := by decide +kernel
theorem dX8_count_171 : decode cX8_count 171 = .ok (.ireturn, 1) := by decide +kernel
theorem dX8_count_172 : decode cX8_count 172 = .ok (.aload_n 0, 1) := by decide +kernel
theorem dX8_count_173 : decode cX8_count 173 = .ok (.getfield 49, 3) := by decide +kernel
theorem dX8_count_176 : decode cX8_count 176 = .ok (.ireturn, 1) := by decide +kernel
theorem dX8_count_177 : decode cX8_count 177 = .ok (.aload_n 0, 1) := by decide +kernel
theorem dX8_count_178 : decode cX8_count 178 = .ok (.getfield 124, 3) := by decide +kernel
theorem dX8_count_181 : decode cX8_count 181 = .ok (.ireturn, 1) := by decide +kernel
theorem dX8_count_182 : decode cX8_count 182 = .ok (.bipush (-2), 2) := by decide +kernel
theorem dX8_count_184 : decode cX8_count 184 = .ok (.ireturn, 1) := by decide +kernel
theorem dX8_lost_0 : decode cX8_lost 0 = .ok (.aload_n 0, 1) := by decide +kernel
theorem dX8_lost_1 : decode cX8_lost 1 = .ok (.getfield 7, 3) := by decide +kernel
theorem dX8_lost_4 : decode cX8_lost 4 = .ok (.bipush 52, 2) := by decide +kernel
theorem dX8_lost_6 : decode cX8_lost 6 = .ok (.iaload, 1) := by decide +kernel
theorem dX8_lost_7 : decode cX8_lost 7 = .ok (.ifCond .ne 7, 3) := by decide +kernel
theorem dX8_lost_10 : decode cX8_lost 10 = .ok (.dconst 0, 1) := by decide +kernel
theorem dX8_lost_11 : decode cX8_lost 11 = .ok (.goto 20, 3) := by decide +kernel
theorem dX8_lost_14 : decode cX8_lost 14 = .ok (.aload_n 0, 1) := by decide +kernel
theorem dX8_lost_15 : decode cX8_lost 15 = .ok (.getfield 7, 3) := by decide +kernel
theorem dX8_lost_18 : decode cX8_lost 18 = .ok (.bipush 53, 2) := by decide +kernel
theorem dX8_lost_20 : decode cX8_lost 20 = .ok (.iaload, 1) := by decide +kernel
theorem dX8_lost_21 : decode cX8_lost 21 = .ok (.i2d, 1) := by decide +kernel
theorem dX8_lost_22 : decode cX8_lost 22 = .ok (.aload_n 0, 1) := by decide +kernel
theorem dX8_lost_23 : decode cX8_lost 23 = .ok (.getfield 7, 3) := by decide +kernel
theorem dX8_lost_26 : decode cX8_lost 26 = .ok (.bipush 52, 2) := by decide +kernel
theorem dX8_lost_28 : decode cX8_lost 28 = .ok (.iaload, 1) := by decide +kernel
theorem dX8_lost_29 : decode cX8_lost 29 = .ok (.i2d, 1) := by decide +kernel
theorem dX8_lost_30 : decode cX8_lost 30 = .ok (.ddiv, 1) := by decide +kernel
theorem dX8_lost_31 : decode cX8_lost 31 = .ok (.dreturn, 1) := by decide +kernel
theorem dX8_laySums_0 : decode cX8_laySums 0 = .ok (.iconst 1, 1) := by decide +kernel
theorem dX8_laySums_1 : decode cX8_laySums 1 = .ok (.istore_n 1, 1) := by decide +kernel
theorem dX8_laySums_2 : decode cX8_laySums 2 = .ok (.iconst 0, 1) := by decide +kernel
theorem dX8_laySums_3 : decode cX8_laySums 3 = .ok (.istore_n 2, 1) := by decide +kernel
theorem dX8_laySums_4 : decode cX8_laySums 4 = .ok (.iload_n 2, 1) := by decide +kernel
theorem dX8_laySums_5 : decode cX8_laySums 5 = .ok (.aload_n 0, 1) := by decide +kernel
theorem dX8_laySums_6 : decode cX8_laySums 6 = .ok (.getfield 7, 3) := by decide +kernel
theorem dX8_laySums_9 : decode cX8_laySums 9 = .ok (.bipush 8, 2) := by decide +kernel
theorem dX8_laySums_11 : decode cX8_laySums 11 = .ok (.iaload, 1) := by decide +kernel
theorem dX8_laySums_12 : decode cX8_laySums 12 = .ok (.if_icmp .ge 48, 3) := by decide +kernel
theorem dX8_laySums_15 : decode cX8_laySums 15 = .ok (.iconst 0, 1) := by decide +kernel
theorem dX8_laySums_16 : decode cX8_laySums 16 = .ok (.istore_n 3, 1) := by decide +kernel
theorem dX8_laySums_17 : decode cX8_laySums 17 = .ok (.iload_n 3, 1) := by decide +kernel
theorem dX8_laySums_18 : decode cX8_laySums 18 = .ok (.iload_n 1, 1) := by decide +kernel
theorem dX8_laySums_19 : decode cX8_laySums 19 = .ok (.if_icmp .ge 31, 3) := by decide +kernel
theorem dX8_laySums_22 : decode cX8_laySums 22 = .ok (.aload_n 0, 1) := by decide +kernel
theorem dX8_laySums_23 : decode cX8_laySums 23 = .ok (.getfield 38, 3) := by decide +kernel
theorem dX8_laySums_26 : decode cX8_laySums 26 = .ok (.iload_n 1, 1) := by decide +kernel
theorem dX8_laySums_27 : decode cX8_laySums 27 = .ok (.iload_n 3, 1) := by decide +kernel
theorem dX8_laySums_28 : decode cX8_laySums 28 = .ok (.iadd, 1) := by decide +kernel
theorem dX8_laySums_29 : decode cX8_laySums 29 = .ok (.aload_n 0, 1) := by decide +kernel
theorem dX8_laySums_30 : decode cX8_laySums 30 = .ok (.getfield 38, 3) := by decide +kernel
theorem dX8_laySums_33 : decode cX8_laySums 33 = .ok (.iload_n 3, 1) := by decide +kernel
theorem dX8_laySums_34 : decode cX8_laySums 34 = .ok (.iaload, 1) := by decide +kernel
theorem dX8_laySums_35 : decode cX8_laySums 35 = .ok (.aload_n 0, 1) := by decide +kernel
theorem dX8_laySums_36 : decode cX8_laySums 36 = .ok (.iload_n 2, 1) := by decide +kernel
theorem dX8_laySums_37 : decode cX8_laySums 37 = .ok (.invokevirtual 76, 3) := by decide +kernel
theorem dX8_laySums_40 : decode cX8_laySums 40 = .ok (.invokestatic 53, 3) := by decide +kernel
theorem dX8_laySums_43 : decode cX8_laySums 43 = .ok (.iastore, 1) := by decide +kernel
theorem dX8_laySums_44 : decode cX8_laySums 44 = .ok (.iinc 3 1, 3) := by decide +kernel
theorem dX8_laySums_47 : decode cX8_laySums 47 = .ok (.goto (-30), 3) := by decide +kernel
theorem dX8_laySums_50 : decode cX8_laySums 50 = .ok (.iconst 2, 1) := by decide +kernel
theorem dX8_laySums_51 : decode cX8_laySums 51 = .ok (.iload_n 1, 1) := by decide +kernel
theorem dX8_laySums_52 : decode cX8_laySums 52 = .ok (.imul, 1) := by decide +kernel
theorem dX8_laySums_53 : decode cX8_laySums 53 = .ok (.istore_n 1, 1) := by decide +kernel
theorem dX8_laySums_54 : decode cX8_laySums 54 = .ok (.iinc 2 1, 3) := by decide +kernel
theorem dX8_laySums_57 : decode cX8_laySums 57 = .ok (.goto (-53), 3) := by decide +kernel
theorem dX8_laySums_60 : decode cX8_laySums 60 = .ok (.iload_n 1, 1) := by decide +kernel
theorem dX8_laySums_61 : decode cX8_laySums 61 = .ok (.ireturn, 1) := by decide +kernel
theorem dX8_size_0 : decode cX8_size 0 = .ok (.iconst 0, 1) := by decide +kernel
theorem dX8_size_1 : decode cX8_size 1 = .ok (.istore_n 1, 1) := by decide +kernel
theorem dX8_size_2 : decode cX8_size 2 = .ok (.iload_n 0, 1) := by decide +kernel
theorem dX8_size_3 : decode cX8_size 3 = .ok (.istore_n 2, 1) := by decide +kernel
theorem dX8_size_4 : decode cX8_size 4 = .ok (.iload_n 2, 1) := by decide +kernel
theorem dX8_size_5 : decode cX8_size 5 = .ok (.ifCond .le 16, 3) := by decide +kernel
theorem dX8_size_8 : decode cX8_size 8 = .ok (.iload_n 1, 1) := by decide +kernel
theorem dX8_size_9 : decode cX8_size 9 = .ok (.iload_n 2, 1) := by decide +kernel
theorem dX8_size_10 : decode cX8_size 10 = .ok (.iconst 2, 1) := by decide +kernel
theorem dX8_size_11 : decode cX8_size 11 = .ok (.irem, 1) := by decide +kernel
theorem dX8_size_12 : decode cX8_size 12 = .ok (.iadd, 1) := by decide +kernel
theorem dX8_size_13 : decode cX8_size 13 = .ok (.istore_n 1, 1) := by decide +kernel
theorem dX8_size_14 : decode cX8_size 14 = .ok (.iload_n 2, 1) := by decide +kernel
theorem dX8_size_15 : decode cX8_size 15 = .ok (.iconst 2, 1) := by decide +kernel
theorem dX8_size_16 : decode cX8_size 16 = .ok (.idiv, 1) := by decide +kernel
theorem dX8_size_17 : decode cX8_size 17 = .ok (.istore_n 2, 1) := by decide +kernel
theorem dX8_size_18 : decode cX8_size 18 = .ok (.goto (-14), 3) := by decide +kernel
theorem dX8_size_21 : decode cX8_size 21 = .ok (.iload_n 1, 1) := by decide +kernel
theorem dX8_size_22 : decode cX8_size 22 = .ok (.ireturn, 1) := by decide +kernel
theorem dX8_fewest_0 : decode cX8_fewest 0 = .ok (.iload_n 1, 1) := by decide +kernel
theorem dX8_fewest_1 : decode cX8_fewest 1 = .ok (.invokestatic 89, 3) := by decide +kernel
theorem dX8_fewest_4 : decode cX8_fewest 4 = .ok (.ifCond .eq 12, 3) := by decide +kernel
theorem dX8_fewest_7 : decode cX8_fewest 7 = .ok (.iload_n 2, 1) := by decide +kernel
theorem dX8_fewest_8 : decode cX8_fewest 8 = .ok (.iconst 0, 1) := by decide +kernel
theorem dX8_fewest_9 : decode cX8_fewest 9 = .ok (.iconst 1, 1) := by decide +kernel
theorem dX8_fewest_10 : decode cX8_fewest 10 = .ok (.invokestatic 41, 3) := by decide +kernel
theorem dX8_fewest_13 : decode cX8_fewest 13 = .ok (.ifCond .ne 6, 3) := by decide +kernel
theorem dX8_fewest_16 : decode cX8_fewest 16 = .ok (.bipush (-2), 2) := by decide +kernel
theorem dX8_fewest_18 : decode cX8_fewest 18 = .ok (.ireturn, 1) := by decide +kernel
theorem dX8_fewest_19 : decode cX8_fewest 19 = .ok (.aload_n 0, 1) := by decide +kernel
theorem dX8_fewest_20 : decode cX8_fewest 20 = .ok (.iload_n 1, 1) := by decide +kernel
theorem dX8_fewest_21 : decode cX8_fewest 21 = .ok (.invokevirtual 67, 3) := by decide +kernel
theorem dX8_fewest_24 : decode cX8_fewest 24 = .ok (.istore_n 3, 1) := by decide +kernel
theorem dX8_fewest_25 : decode cX8_fewest 25 = .ok (.aload_n 0, 1) := by decide +kernel
theorem dX8_fewest_26 : decode cX8_fewest 26 = .ok (.invokevirtual 187, 3) := by decide +kernel
theorem dX8_fewest_29 : decode cX8_fewest 29 = .ok (.istore 4, 2) := by decide +kernel
theorem dX8_fewest_31 : decode cX8_fewest 31 = .ok (.bipush (-5), 2) := by decide +kernel
theorem dX8_fewest_33 : decode cX8_fewest 33 = .ok (.istore 5, 2) := by decide +kernel
theorem dX8_fewest_35 : decode cX8_fewest 35 = .ok (.iconst 0, 1) := by decide +kernel
theorem dX8_fewest_36 : decode cX8_fewest 36 = .ok (.istore 6, 2) := by decide +kernel
theorem dX8_fewest_38 : decode cX8_fewest 38 = .ok (.iload 6, 2) := by decide +kernel
theorem dX8_fewest_40 : decode cX8_fewest 40 = .ok (.iload 4, 2) := by decide +kernel
theorem dX8_fewest_42 : decode cX8_fewest 42 = .ok (.if_icmp .ge 66, 3) := by decide +kernel
theorem dX8_fewest_45 : decode cX8_fewest 45 = .ok (.aload_n 0, 1) := by decide +kernel
theorem dX8_fewest_46 : decode cX8_fewest 46 = .ok (.getfield 29, 3) := by decide +kernel
theorem dX8_fewest_49 : decode cX8_fewest 49 = .ok (.aload_n 0, 1) := by decide +kernel
theorem dX8_fewest_50 : decode cX8_fewest 50 = .ok (.getfield 38, 3) := by decide +kernel
theorem dX8_fewest_53 : decode cX8_fewest 53 = .ok (.iload 6, 2) := by decide +kernel
theorem dX8_fewest_55 : decode cX8_fewest 55 = .ok (.iaload, 1) := by decide +kernel
theorem dX8_fewest_56 : decode cX8_fewest 56 = .ok (.iaload, 1) := by decide +kernel
theorem dX8_fewest_57 : decode cX8_fewest 57 = .ok (.iload_n 3, 1) := by decide +kernel
theorem dX8_fewest_58 : decode cX8_fewest 58 = .ok (.if_icmp .ne 27, 3) := by decide +kernel
theorem dX8_fewest_61 : decode cX8_fewest 61 = .ok (.iload 5, 2) := by decide +kernel
theorem dX8_fewest_63 : decode cX8_fewest 63 = .ok (.bipush (-5), 2) := by decide +kernel
theorem dX8_fewest_65 : decode cX8_fewest 65 = .ok (.if_icmp .eq 16, 3) := by decide +kernel
theorem dX8_fewest_68 : decode cX8_fewest 68 = .ok (.iload 6, 2) := by decide +kernel
theorem dX8_fewest_70 : decode cX8_fewest 70 = .ok (.invokestatic 190, 3) := by decide +kernel
theorem dX8_fewest_73 : decode cX8_fewest 73 = .ok (.iload 5, 2) := by decide +kernel
theorem dX8_fewest_75 : decode cX8_fewest 75 = .ok (.invokestatic 190, 3) := by decide +kernel
theorem dX8_fewest_78 : decode cX8_fewest 78 = .ok (.if_icmp .ge 7, 3) := by decide +kernel
theorem dX8_fewest_81 : decode cX8_fewest 81 = .ok (.iconst 1, 1) := by decide +kernel
theorem dX8_fewest_82 : decode cX8_fewest 82 = .ok (.goto 4, 3) := by decide +kernel
theorem dX8_fewest_85 : decode cX8_fewest 85 = .ok (.iconst 0, 1) := by decide +kernel
theorem dX8_fewest_86 : decode cX8_fewest 86 = .ok (.istore 7, 2) := by decide +kernel
theorem dX8_fewest_88 : decode cX8_fewest 88 = .ok (.iload 7, 2) := by decide +kernel
theorem dX8_fewest_90 : decode cX8_fewest 90 = .ok (.ifCond .eq 8, 3) := by decide +kernel
theorem dX8_fewest_93 : decode cX8_fewest 93 = .ok (.iload 6, 2) := by decide +kernel
theorem dX8_fewest_95 : decode cX8_fewest 95 = .ok (.goto 5, 3) := by decide +kernel
theorem dX8_fewest_98 : decode cX8_fewest 98 = .ok (.iload 5, 2) := by decide +kernel
theorem dX8_fewest_100 : decode cX8_fewest 100 = .ok (.istore 5, 2) := by decide +kernel
theorem dX8_fewest_102 : decode cX8_fewest 102 = .ok (.iinc 6 1, 3) := by decide +kernel
theorem dX8_fewest_105 : decode cX8_fewest 105 = .ok (.goto (-67), 3) := by decide +kernel
theorem dX8_fewest_108 : decode cX8_fewest 108 = .ok (.iload 5, 2) := by decide +kernel
theorem dX8_fewest_110 : decode cX8_fewest 110 = .ok (.bipush (-5), 2) := by decide +kernel
theorem dX8_fewest_112 : decode cX8_fewest 112 = .ok (.if_icmp .ne 8, 3) := by decide +kernel
theorem dX8_fewest_115 : decode cX8_fewest 115 = .ok (.bipush (-5), 2) := by decide +kernel
theorem dX8_fewest_117 : decode cX8_fewest 117 = .ok (.goto 17, 3) := by decide +kernel
theorem dX8_fewest_120 : decode cX8_fewest 120 = .ok (.iload_n 2, 1) := by decide +kernel
theorem dX8_fewest_121 : decode cX8_fewest 121 = .ok (.ifCond .ne 11, 3) := by decide +kernel
theorem dX8_fewest_124 : decode cX8_fewest 124 = .ok (.iload 5, 2) := by decide +kernel
theorem dX8_fewest_126 : decode cX8_fewest 126 = .ok (.invokestatic 190, 3) := by decide +kernel
theorem dX8_fewest_129 : decode cX8_fewest 129 = .ok (.goto 5, 3) := by decide +kernel
theorem dX8_fewest_132 : decode cX8_fewest 132 = .ok (.iload 5, 2) := by decide +kernel
theorem dX8_fewest_134 : decode cX8_fewest 134 = .ok (.ireturn, 1) := by decide +kernel
theorem dX8_makes_0 : decode cX8_makes 0 = .ok (.aload_n 0, 1) := by decide +kernel
theorem dX8_makes_1 : decode cX8_makes 1 = .ok (.invokevirtual 64, 3) := by decide +kernel
theorem dX8_makes_4 : decode cX8_makes 4 = .ok (.aload_n 0, 1) := by decide +kernel
theorem dX8_makes_5 : decode cX8_makes 5 = .ok (.invokevirtual 187, 3) := by decide +kernel
theorem dX8_makes_8 : decode cX8_makes 8 = .ok (.istore_n 1, 1) := by decide +kernel
theorem dX8_makes_9 : decode cX8_makes 9 = .ok (.iconst 0, 1) := by decide +kernel
theorem dX8_makes_10 : decode cX8_makes 10 = .ok (.istore_n 2, 1) := by decide +kernel
theorem dX8_makes_11 : decode cX8_makes 11 = .ok (.iload_n 2, 1) := by decide +kernel
theorem dX8_makes_12 : decode cX8_makes 12 = .ok (.sipush 6561, 3) := by decide +kernel
theorem dX8_makes_15 : decode cX8_makes 15 = .ok (.if_icmp .ge 16, 3) := by decide +kernel
theorem dX8_makes_18 : decode cX8_makes 18 = .ok (.aload_n 0, 1) := by decide +kernel
theorem dX8_makes_19 : decode cX8_makes 19 = .ok (.getfield 35, 3) := by decide +kernel
theorem dX8_makes_22 : decode cX8_makes 22 = .ok (.iload_n 2, 1) := by decide +kernel
theorem dX8_makes_23 : decode cX8_makes 23 = .ok (.iconst 0, 1) := by decide +kernel
theorem dX8_makes_24 : decode cX8_makes 24 = .ok (.bastore, 1) := by decide +kernel
theorem dX8_makes_25 : decode cX8_makes 25 = .ok (.iinc 2 1, 3) := by decide +kernel
theorem dX8_makes_28 : decode cX8_makes 28 = .ok (.goto (-17), 3) := by decide +kernel
theorem dX8_makes_31 : decode cX8_makes 31 = .ok (.iconst 0, 1) := by decide +kernel
theorem dX8_makes_32 : decode cX8_makes 32 = .ok (.istore_n 2, 1) := by decide +kernel
theorem dX8_makes_33 : decode cX8_makes 33 = .ok (.iconst 0, 1) := by decide +kernel
theorem dX8_makes_34 : decode cX8_makes 34 = .ok (.istore_n 3, 1) := by decide +kernel
theorem dX8_makes_35 : decode cX8_makes 35 = .ok (.iload_n 3, 1) := by decide +kernel
theorem dX8_makes_36 : decode cX8_makes 36 = .ok (.iload_n 1, 1) := by decide +kernel
theorem dX8_makes_37 : decode cX8_makes 37 = .ok (.if_icmp .ge 48, 3) := by decide +kernel
theorem dX8_makes_40 : decode cX8_makes 40 = .ok (.aload_n 0, 1) := by decide +kernel
theorem dX8_makes_41 : decode cX8_makes 41 = .ok (.getfield 29, 3) := by decide +kernel
theorem dX8_makes_44 : decode cX8_makes 44 = .ok (.aload_n 0, 1) := by decide +kernel
theorem dX8_makes_45 : decode cX8_makes 45 = .ok (.getfield 38, 3) := by decide +kernel
theorem dX8_makes_48 : decode cX8_makes 48 = .ok (.iload_n 3, 1) := by decide +kernel
theorem dX8_makes_49 : decode cX8_makes 49 = .ok (.iaload, 1) := by decide +kernel
theorem dX8_makes_50 : decode cX8_makes 50 = .ok (.iaload, 1) := by decide +kernel
theorem dX8_makes_51 : decode cX8_makes 51 = .ok (.istore 4, 2) := by decide +kernel
theorem dX8_makes_53 : decode cX8_makes 53 = .ok (.iload_n 2, 1) := by decide +kernel
theorem dX8_makes_54 : decode cX8_makes 54 = .ok (.aload_n 0, 1) := by decide +kernel
theorem dX8_makes_55 : decode cX8_makes 55 = .ok (.getfield 35, 3) := by decide +kernel
theorem dX8_makes_58 : decode cX8_makes 58 = .ok (.iload 4, 2) := by decide +kernel
theorem dX8_makes_60 : decode cX8_makes 60 = .ok (.baload, 1) := by decide +kernel
theorem dX8_makes_61 : decode cX8_makes 61 = .ok (.ifCond .eq 7, 3) := by decide +kernel
theorem dX8_makes_64 : decode cX8_makes 64 = .ok (.iconst 0, 1) := by decide +kernel
theorem dX8_makes_65 : decode cX8_makes 65 = .ok (.goto 4, 3) := by decide +kernel
theorem dX8_makes_68 : decode cX8_makes 68 = .ok (.iconst 1, 1) := by decide +kernel
theorem dX8_makes_69 : decode cX8_makes 69 = .ok (.iadd, 1) := by decide +kernel
theorem dX8_makes_70 : decode cX8_makes 70 = .ok (.istore_n 2, 1) := by decide +kernel
theorem dX8_makes_71 : decode cX8_makes 71 = .ok (.aload_n 0, 1) := by decide +kernel
theorem dX8_makes_72 : decode cX8_makes 72 = .ok (.getfield 35, 3) := by decide +kernel
theorem dX8_makes_75 : decode cX8_makes 75 = .ok (.iload 4, 2) := by decide +kernel
theorem dX8_makes_77 : decode cX8_makes 77 = .ok (.iconst 1, 1) := by decide +kernel
theorem dX8_makes_78 : decode cX8_makes 78 = .ok (.bastore, 1) := by decide +kernel
theorem dX8_makes_79 : decode cX8_makes 79 = .ok (.iinc 3 1, 3) := by decide +kernel
theorem dX8_makes_82 : decode cX8_makes 82 = .ok (.goto (-47), 3) := by decide +kernel
theorem dX8_makes_85 : decode cX8_makes 85 = .ok (.iload_n 2, 1) := by decide +kernel
theorem dX8_makes_86 : decode cX8_makes 86 = .ok (.ireturn, 1) := by decide +kernel
theorem dX8_needless_0 : decode cX8_needless 0 = .ok (.aload_n 0, 1) := by decide +kernel
theorem dX8_needless_1 : decode cX8_needless 1 = .ok (.invokevirtual 112, 3) := by decide +kernel
theorem dX8_needless_4 : decode cX8_needless 4 = .ok (.istore_n 1, 1) := by decide +kernel
theorem dX8_needless_5 : decode cX8_needless 5 = .ok (.bipush (-5), 2) := by decide +kernel
theorem dX8_needless_7 : decode cX8_needless 7 = .ok (.istore_n 2, 1) := by decide +kernel
theorem dX8_needless_8 : decode cX8_needless 8 = .ok (.iconst 0, 1) := by decide +kernel
theorem dX8_needless_9 : decode cX8_needless 9 = .ok (.istore_n 3, 1) := by decide +kernel
theorem dX8_needless_10 : decode cX8_needless 10 = .ok (.iload_n 3, 1) := by decide +kernel
theorem dX8_needless_11 : decode cX8_needless 11 = .ok (.aload_n 0, 1) := by decide +kernel
theorem dX8_needless_12 : decode cX8_needless 12 = .ok (.getfield 7, 3) := by decide +kernel
theorem dX8_needless_15 : decode cX8_needless 15 = .ok (.bipush 34, 2) := by decide +kernel
theorem dX8_needless_17 : decode cX8_needless 17 = .ok (.iaload, 1) := by decide +kernel
theorem dX8_needless_18 : decode cX8_needless 18 = .ok (.if_icmp .ge 31, 3) := by decide +kernel
theorem dX8_needless_21 : decode cX8_needless 21 = .ok (.iload_n 2, 1) := by decide +kernel
theorem dX8_needless_22 : decode cX8_needless 22 = .ok (.bipush (-5), 2) := by decide +kernel
theorem dX8_needless_24 : decode cX8_needless 24 = .ok (.if_icmp .ne 25, 3) := by decide +kernel
theorem dX8_needless_27 : decode cX8_needless 27 = .ok (.aload_n 0, 1) := by decide +kernel
theorem dX8_needless_28 : decode cX8_needless 28 = .ok (.iload_n 3, 1) := by decide +kernel
theorem dX8_needless_29 : decode cX8_needless 29 = .ok (.invokevirtual 57, 3) := by decide +kernel
theorem dX8_needless_32 : decode cX8_needless 32 = .ok (.iload_n 1, 1) := by decide +kernel
theorem dX8_needless_33 : decode cX8_needless 33 = .ok (.if_icmp .ne 7, 3) := by decide +kernel
theorem dX8_needless_36 : decode cX8_needless 36 = .ok (.iload_n 3, 1) := by decide +kernel
theorem dX8_needless_37 : decode cX8_needless 37 = .ok (.goto 5, 3) := by decide +kernel
theorem dX8_needless_40 : decode cX8_needless 40 = .ok (.bipush (-5), 2) := by decide +kernel
theorem dX8_needless_42 : decode cX8_needless 42 = .ok (.istore_n 2, 1) := by decide +kernel
theorem dX8_needless_43 : decode cX8_needless 43 = .ok (.iinc 3 1, 3) := by decide +kernel
theorem dX8_needless_46 : decode cX8_needless 46 = .ok (.goto (-36), 3) := by decide +kernel
theorem dX8_needless_49 : decode cX8_needless 49 = .ok (.aload_n 0, 1) := by decide +kernel
theorem dX8_needless_50 : decode cX8_needless 50 = .ok (.iconst 0, 1) := by decide +kernel
theorem dX8_needless_51 : decode cX8_needless 51 = .ok (.putfield 45, 3) := by decide +kernel
theorem dX8_needless_54 : decode cX8_needless 54 = .ok (.iload_n 2, 1) := by decide +kernel
theorem dX8_needless_55 : decode cX8_needless 55 = .ok (.ireturn, 1) := by decide +kernel
theorem dX8_ifPoured_0 : decode cX8_ifPoured 0 = .ok (.aload_n 0, 1) := by decide +kernel
theorem dX8_ifPoured_1 : decode cX8_ifPoured 1 = .ok (.iload_n 1, 1) := by decide +kernel
theorem dX8_ifPoured_2 : decode cX8_ifPoured 2 = .ok (.invokevirtual 82, 3) := by decide +kernel
theorem dX8_ifPoured_5 : decode cX8_ifPoured 5 = .ok (.istore_n 3, 1) := by decide +kernel
theorem dX8_ifPoured_6 : decode cX8_ifPoured 6 = .ok (.aload_n 0, 1) := by decide +kernel
theorem dX8_ifPoured_7 : decode cX8_ifPoured 7 = .ok (.iload_n 2, 1) := by decide +kernel
theorem dX8_ifPoured_8 : decode cX8_ifPoured 8 = .ok (.invokevirtual 82, 3) := by decide +kernel
theorem dX8_ifPoured_11 : decode cX8_ifPoured 11 = .ok (.istore 4, 2) := by decide +kernel
theorem dX8_ifPoured_13 : decode cX8_ifPoured 13 = .ok (.iload_n 3, 1) := by decide +kernel
theorem dX8_ifPoured_14 : decode cX8_ifPoured 14 = .ok (.bipush (-5), 2) := by decide +kernel
theorem dX8_ifPoured_16 : decode cX8_ifPoured 16 = .ok (.if_icmp .eq 10, 3) := by decide +kernel
theorem dX8_ifPoured_19 : decode cX8_ifPoured 19 = .ok (.iload 4, 2) := by decide +kernel
theorem dX8_ifPoured_21 : decode cX8_ifPoured 21 = .ok (.bipush (-5), 2) := by decide +kernel
theorem dX8_ifPoured_23 : decode cX8_ifPoured 23 = .ok (.if_icmp .ne 5, 3) := by decide +kernel
theorem dX8_ifPoured_26 : decode cX8_ifPoured 26 = .ok (.iconst (-1), 1) := by decide +kernel
theorem dX8_ifPoured_27 : decode cX8_ifPoured 27 = .ok (.ireturn, 1) := by decide +kernel
theorem dX8_ifPoured_28 : decode cX8_ifPoured 28 = .ok (.iload_n 3, 1) := by decide +kernel
theorem dX8_ifPoured_29 : decode cX8_ifPoured 29 = .ok (.iload 4, 2) := by decide +kernel
theorem dX8_ifPoured_31 : decode cX8_ifPoured 31 = .ok (.if_icmp .ne 8, 3) := by decide +kernel
theorem dX8_ifPoured_34 : decode cX8_ifPoured 34 = .ok (.bipush (-2), 2) := by decide +kernel
theorem dX8_ifPoured_36 : decode cX8_ifPoured 36 = .ok (.goto 21, 3) := by decide +kernel
theorem dX8_ifPoured_39 : decode cX8_ifPoured 39 = .ok (.aload_n 0, 1) := by decide +kernel
theorem dX8_ifPoured_40 : decode cX8_ifPoured 40 = .ok (.aload_n 0, 1) := by decide +kernel
theorem dX8_ifPoured_41 : decode cX8_ifPoured 41 = .ok (.iload_n 3, 1) := by decide +kernel
theorem dX8_ifPoured_42 : decode cX8_ifPoured 42 = .ok (.invokevirtual 76, 3) := by decide +kernel
theorem dX8_ifPoured_45 : decode cX8_ifPoured 45 = .ok (.aload_n 0, 1) := by decide +kernel
theorem dX8_ifPoured_46 : decode cX8_ifPoured 46 = .ok (.iload 4, 2) := by decide +kernel
theorem dX8_ifPoured_48 : decode cX8_ifPoured 48 = .ok (.invokevirtual 76, 3) := by decide +kernel
theorem dX8_ifPoured_51 : decode cX8_ifPoured 51 = .ok (.invokestatic 53, 3) := by decide +kernel
theorem dX8_ifPoured_54 : decode cX8_ifPoured 54 = .ok (.invokevirtual 67, 3) := by decide +kernel
theorem dX8_ifPoured_57 : decode cX8_ifPoured 57 = .ok (.ireturn, 1) := by decide +kernel
end
section
/-! numbers: whole numbers in the range of an int, and what the machine's int is of each -/
abbrev PV : Type := Int ⊕ Nat
abbrev Mem : Type := Nat → Nat → Int
def w32 (x : Int) : Int := (x + 2147483648) % 4294967296 - 2147483648
abbrev inR (x : Int) : Prop := -2147483648 ≤ x ∧ x < 2147483648
theorem w32_in (x : Int) : inR (w32 x) := by unfold w32 inR; omega
theorem w32_id {x : Int} (h : inR x) : w32 x = x := by unfold inR at h; unfold w32; omega
theorem w32_bmod (x : Int) : w32 x = x.bmod 4294967296 := by
  unfold w32 Int.bmod
  dsimp only
  split <;> omega
theorem oi_to (x : Int) : (Int32.ofInt x).toInt = w32 x := by
  rw [Int32.toInt_ofInt, w32_bmod]
theorem oi_toR {x : Int} (h : inR x) : (Int32.ofInt x).toInt = x := by rw [oi_to, w32_id h]
theorem to_in (z : Int32) : inR z.toInt := by
  have h := oi_to z.toInt
  rw [Int32.ofInt_toInt] at h
  rw [h]
  exact w32_in _
theorem oi_w32 (x : Int) : Int32.ofInt (w32 x) = Int32.ofInt x := by
  apply Int32.toInt_inj.mp
  rw [oi_to, oi_to, w32_id (w32_in x)]
theorem oi_inj {x y : Int} (hx : inR x) (hy : inR y) : Int32.ofInt x = Int32.ofInt y ↔ x = y := by
  refine ⟨fun h => ?_, fun h => by rw [h]⟩
  have h1 := congrArg Int32.toInt h
  rwa [oi_toR hx, oi_toR hy] at h1
theorem oi_lt {x y : Int} (hx : inR x) (hy : inR y) : Int32.ofInt x < Int32.ofInt y ↔ x < y := by
  rw [Int32.lt_iff_toInt_lt, oi_toR hx, oi_toR hy]
theorem oi_le {x y : Int} (hx : inR x) (hy : inR y) : Int32.ofInt x ≤ Int32.ofInt y ↔ x ≤ y := by
  rw [Int32.le_iff_toInt_le, oi_toR hx, oi_toR hy]
theorem oi_clamp {x : Int} (hx : inR x) : (Int32.ofInt x).toNatClampNeg = x.toNat := by
  show (Int32.ofInt x).toInt.toNat = _
  rw [oi_toR hx]
theorem oi_div {x y : Int} (hx : inR x) (hy : inR y) : Int32.ofInt x / Int32.ofInt y = Int32.ofInt (w32 (x.tdiv y)) := by
  apply Int32.toInt_inj.mp
  rw [Int32.toInt_div, oi_toR hx, oi_toR hy, oi_to, w32_id (w32_in _), w32_bmod]
theorem oi_rem {x y : Int} (hx : inR x) (hy : inR y) : Int32.ofInt x - Int32.ofInt x / Int32.ofInt y * Int32.ofInt y = Int32.ofInt (x.tmod y) := by
  rw [oi_div hx hy, oi_w32, ← Int32.ofInt_mul, ← Int32.ofInt_sub, Int.tmod_def, Int.mul_comm]
theorem tmod_in {x y : Int} (hx : inR x) : inR (x.tmod y) := by
  have h : (x.tmod y).natAbs ≤ x.natAbs := by
    rw [Int.natAbs_tmod]
    exact Nat.mod_le _ _
  unfold inR at *
  rcases Int.le_total 0 x with h0 | h0
  · have := Int.tmod_nonneg y h0
    omega
  · have h1 : 0 ≤ (-x).tmod y := Int.tmod_nonneg y (by omega)
    rw [Int.neg_tmod] at h1
    omega
def n8 (x : Int) : Int := (Int32.ofInt x).toInt8.toInt32.toInt
def n16 (x : Int) : Int := (Int32.ofInt x).toInt16.toInt32.toInt
def nch (x : Int) : Int := ((Int32.ofInt x).toUInt32 % 65536).toInt32.toInt
def nzz (x : Int) : Int := (Int32.ofInt x &&& 1).toInt
def and32 (x y : Int) : Int := (Int32.ofInt x &&& Int32.ofInt y).toInt
def or32 (x y : Int) : Int := (Int32.ofInt x ||| Int32.ofInt y).toInt
def shl32 (x y : Int) : Int := (Int32.ofInt x <<< (Int32.ofInt y &&& 31)).toInt
def ushr32 (x y : Int) : Int := (((Int32.ofInt x).toUInt32 >>> ((Int32.ofInt y).toUInt32 &&& Int32.toUInt32 31)).toInt32).toInt
theorem vin_of {i : Int} {n : Nat} (hR : inR i) (h0 : 0 ≤ i) (hn : i < n) : vp_in (Int32.ofInt i) n := by
  intro h
  rcases h with h | h
  · have h1 : Int32.ofInt i < Int32.ofInt 0 := h
    rw [oi_lt hR (by decide)] at h1
    omega
  · rw [oi_clamp hR] at h
    omega
/-! memory -/
def mst (μ : Mem) (k i : Nat) (v : Int) : Mem := fun a b => if a = k ∧ b = i then v else μ a b
def RM (μ : Mem) : Prop := ∀ k j, inR (μ k j)
theorem RM_mst {μ : Mem} (h : RM μ) (k i : Nat) {v : Int} (hv : inR v) : RM (mst μ k i v) := by
  intro a b
  unfold mst
  split
  · exact hv
  · exact h a b
abbrev Descr : Type := (Nat × List (Option Nat)) ⊕ ((Nat × Nat) ⊕ List Nat)
def fv (ad : Nat → Nat) (μ : Nat → Int) (j : Nat) (r : Option Nat) : Value := match r with
  | some k => .ref (ad k)
  | none => .int (Int32.ofInt (μ j))
def cellE (ad : Nat → Nat) (ca : Nat → ClassId) (μ : Nat → Int) (d : Descr) : va_E := match d with
  | .inl o => .inr (o.1, o.2.mapIdx (fv ad μ))
  | .inr (.inl a) => .inl (ca a.1, a.2, .inl fun j => Int32.ofInt (μ j))
  | .inr (.inr rs) => .inl (ca 5, rs.length, .inr (.inr (.inr (.inr fun j => some (ad (rs.getD j 0))))))
def wd (sh : List Descr) (ad : Nat → Nat) (ca : Nat → ClassId) (μ : Mem) : va_W := sh.mapIdx fun k d => (ad k, cellE ad ca (μ k) d)
theorem wd_get {sh : List Descr} {ad : Nat → Nat} {ca : Nat → ClassId} {μ : Mem} {k : Nat} {d : Descr} (h : sh[k]? = some d) : (wd sh ad ca μ)[k]? = some (ad k, cellE ad ca (μ k) d) := by
  simp [wd, List.getElem?_mapIdx, h]
theorem wd_getI {sh : List Descr} {ad : Nat → Nat} {ca : Nat → ClassId} {μ : Mem} {k : Nat} {q : Nat × va_E} (h : (wd sh ad ca μ)[k]? = some q) : ∃ d, sh[k]? = some d ∧ q = (ad k, cellE ad ca (μ k) d) := by
  simp only [wd, List.getElem?_mapIdx] at h
  cases hd : sh[k]? with
  | none => rw [hd] at h; cases h
  | some d => rw [hd] at h; exact ⟨d, rfl, (Option.some.inj h).symm⟩
theorem wd_ext {sh : List Descr} {ad : Nat → Nat} {ca : Nat → ClassId} {μ μ' : Mem} {k : Nat} {d : Descr} {e : va_E} (h : sh[k]? = some d) (he : e = cellE ad ca (μ' k) d) (ho : ∀ a, a ≠ k → μ' a = μ a) : (wd sh ad ca μ).set k (ad k, e) = wd sh ad ca μ' := by
  apply List.ext_getElem?
  intro i
  have hk : k < (wd sh ad ca μ).length := (List.getElem?_eq_some_iff.mp (wd_get (ad := ad) (ca := ca) (μ := μ) h)).1
  by_cases hi : i = k
  · subst hi
    rw [List.getElem?_set_self hk, wd_get h, he]
  · rw [List.getElem?_set_ne (Ne.symm hi)]
    simp only [wd, List.getElem?_mapIdx, ho i hi]
theorem wd_fld {sh : List Descr} {ad : Nat → Nat} {ca : Nat → ClassId} {μ : Mem} {k ci j : Nat} {fs : List (Option Nat)} {x : Int} (h : sh[k]? = some (.inl (ci, fs))) (hf : fs[j]? = some none) : (wd sh ad ca μ).set k (ad k, .inr (ci, (fs.mapIdx (fv ad (μ k))).set j (.int (Int32.ofInt x)))) = wd sh ad ca (mst μ k j x) := by
  refine wd_ext h ?_ (fun a ha => by funext b; simp [mst, ha])
  show _ = Sum.inr (ci, _)
  congr 2
  apply List.ext_getElem?
  intro i
  by_cases hi : i = j
  · subst hi
    have hl : i < (fs.mapIdx (fv ad (μ k))).length := by
      rw [List.length_mapIdx]
      exact (List.getElem?_eq_some_iff.mp hf).1
    rw [List.getElem?_set_self hl, List.getElem?_mapIdx, hf]
    simp [fv, mst]
  · rw [List.getElem?_set_ne (Ne.symm hi), List.getElem?_mapIdx, List.getElem?_mapIdx]
    cases fs[i]? with
    | none => rfl
    | some r => cases r <;> simp [fv, mst, hi]
theorem wd_arr {sh : List Descr} {ad : Nat → Nat} {ca : Nat → ClassId} {μ : Mem} {k ti n i : Nat} {x : Int} {z : Int32} (h : sh[k]? = some (.inr (.inl (ti, n)))) (hz : z = Int32.ofInt x) : (wd sh ad ca μ).set k (ad k, .inl (ca ti, n, .inl (upd (fun j => Int32.ofInt (μ k j)) i z))) = wd sh ad ca (mst μ k i x) := by
  refine wd_ext h ?_ (fun a ha => by funext b; simp [mst, ha])
  show _ = Sum.inl (ca ti, n, Sum.inl _)
  congr 4
  funext j
  subst hz
  simp only [upd, mst]
  by_cases hj : j = i <;> simp [hj]
/-! frames -/
def cv (ad : Nat → Nat) (v : PV) : Value := match v with
  | .inl x => .int (Int32.ofInt x)
  | .inr k => .ref (ad k)
theorem cv_cat (ad : Nat → Nat) (v : PV) : (cv ad v).category = 1 := by cases v <;> rfl
def PR (v : PV) : Prop := match v with
  | .inl x => inR x
  | .inr _ => True
def RS (l : List PV) : Prop := ∀ v ∈ l, PR v
theorem RS_nil : RS [] := fun _ h => by cases h
theorem RS_cons {v : PV} {l : List PV} (h : PR v) (hl : RS l) : RS (v :: l) := fun w hw => by
  rcases List.mem_cons.mp hw with rfl | hw
  · exact h
  · exact hl w hw
theorem RS_tl {v : PV} {l : List PV} (h : RS (v :: l)) : RS l := fun w hw => h w (List.mem_cons_of_mem _ hw)
theorem RS_hd {v : PV} {l : List PV} (h : RS (v :: l)) : PR v := h v List.mem_cons_self
def lvl (ad : Nat → Nat) : List (Option PV) → Nat → List (Nat × Value)
  | [], _ => []
  | none :: L, i => lvl ad L (i + 1)
  | some v :: L, i => (i, cv ad v) :: lvl ad L (i + 1)
theorem lvl_mem {ad : Nat → Nat} : ∀ (L : List (Option PV)) (i j : Nat) (x : Value), (j, x) ∈ lvl ad L i ↔ ∃ v, i ≤ j ∧ L[j - i]? = some (some v) ∧ x = cv ad v := by
  intro L
  induction L with
  | nil => intro i j x; simp [lvl]
  | cons o L ih =>
    intro i j x
    cases o with
    | none =>
      simp only [lvl, ih]
      constructor
      · rintro ⟨v, h1, h2, h3⟩
        refine ⟨v, by omega, ?_, h3⟩
        have : j - i = (j - (i + 1)) + 1 := by omega
        rw [this, List.getElem?_cons_succ]; exact h2
      · rintro ⟨v, h1, h2, h3⟩
        by_cases e : j = i
        · subst e; simp at h2
        · have : j - i = (j - (i + 1)) + 1 := by omega
          rw [this, List.getElem?_cons_succ] at h2
          exact ⟨v, by omega, h2, h3⟩
    | some w =>
      simp only [lvl, List.mem_cons, Prod.mk.injEq, ih]
      constructor
      · rintro (⟨rfl, rfl⟩ | ⟨v, h1, h2, h3⟩)
        · exact ⟨w, by omega, by simp, rfl⟩
        · refine ⟨v, by omega, ?_, h3⟩
          have : j - i = (j - (i + 1)) + 1 := by omega
          rw [this, List.getElem?_cons_succ]; exact h2
      · rintro ⟨v, h1, h2, h3⟩
        by_cases e : j = i
        · subst e
          simp at h2
          subst h2
          exact Or.inl ⟨rfl, h3⟩
        · have : j - i = (j - (i + 1)) + 1 := by omega
          rw [this, List.getElem?_cons_succ] at h2
          exact Or.inr ⟨v, by omega, h2, h3⟩
def Lv (ad : Nat → Nat) (n : Nat) (L : List (Option PV)) (ls : Array Slot) : Prop := L.length = n ∧ lv_has ls n (lvl ad L 0) ∧ ∀ v, some v ∈ L → PR v
theorem Lv.get {ad : Nat → Nat} {n : Nat} {L : List (Option PV)} {ls : Array Slot} (h : Lv ad n L ls) {i : Nat} {v : PV} (hi : L[i]? = some (some v)) : ls[i]? = some (.val (cv ad v)) :=
  h.2.1.2.2 (i, cv ad v) ((lvl_mem L 0 i _).mpr ⟨v, Nat.zero_le _, by simpa using hi, rfl⟩)
theorem Lv.pr {ad : Nat → Nat} {n : Nat} {L : List (Option PV)} {ls : Array Slot} (h : Lv ad n L ls) {i : Nat} {v : PV} (hi : L[i]? = some (some v)) : PR v := h.2.2 v (List.mem_of_getElem? hi)
theorem Lv.idx {ad : Nat → Nat} {n : Nat} {L : List (Option PV)} {ls : Array Slot} (_h : Lv ad n L ls) {i : Nat} {v : PV} (hi : L[i]? = some (some v)) : ∃ k : Nat, (lvl ad L 0)[k]? = some (i, cv ad v) :=
  List.getElem?_of_mem ((lvl_mem L 0 i _).mpr ⟨v, Nat.zero_le _, by simpa using hi, rfl⟩)
theorem Lv.upd {ad : Nat → Nat} {n : Nat} {L : List (Option PV)} {ls ls' : Array Slot} {i : Nat} {v : PV} (h : Lv ad n L ls) (hv : PR v)
    (h' : lv_has ls' n ((i, cv ad v) :: (lvl ad L 0).filter (fun q => !(q.1 == i) && !(q.1 + 1 == i && q.2.category == 2)))) : Lv ad n (L.set i (some v)) ls' := by
  refine ⟨by rw [List.length_set]; exact h.1, ⟨h'.1, h'.2.1, fun q hq => h'.2.2 q ?_⟩, fun w hw => ?_⟩
  · obtain ⟨j, x⟩ := q
    obtain ⟨w, h1, h2, h3⟩ := (lvl_mem _ 0 j x).mp hq
    rw [Nat.sub_zero] at h2
    by_cases e : j = i
    · subst e
      have hl : j < L.length := by
        have := (List.getElem?_eq_some_iff.mp h2).1
        rwa [List.length_set] at this
      rw [List.getElem?_set_self hl] at h2
      cases h2
      rw [h3]
      exact List.mem_cons_self
    · rw [List.getElem?_set_ne (Ne.symm e)] at h2
      refine List.mem_cons_of_mem _ (List.mem_filter.mpr ⟨(lvl_mem L 0 j x).mpr ⟨w, h1, by simpa using h2, h3⟩, ?_⟩)
      rw [h3, cv_cat]
      simp [e]
  · obtain ⟨j, hj⟩ := List.getElem?_of_mem hw
    by_cases e : j = i
    · subst e
      have hl : j < L.length := by
        have := (List.getElem?_eq_some_iff.mp hj).1
        rwa [List.length_set] at this
      rw [List.getElem?_set_self hl] at hj
      cases hj
      exact hv
    · rw [List.getElem?_set_ne (Ne.symm e)] at hj
      exact h.2.2 w (List.mem_of_getElem? hj)
/-- a method: name, code, locals, what it returns, frames and words of locals below it -/
abbrev MR : Type := MethodName × ByteArray × Nat × Option FieldType × Nat × Nat
def WS : List Cond := lw_tbl.filter goodWord
def wsY (Y : MR) : List Cond := Cond.code Y.1 Y.2.1 Y.2.2.1 Y.2.2.2.1 :: WS
def rmY (Y : MR) : Room := { frames := Y.2.2.2.2.1, cells := 0, slots := 0, locals := Y.2.2.2.2.2 }
theorem mw {w : Cond} (i : Nat) (h : lw_tbl[i]? = some w) (hg : goodWord w = true) : w ∈ WS := List.mem_filter.mpr ⟨List.mem_of_getElem? h, hg⟩
def tysC (ca : Nat → ClassId) : List (ClassId × FieldType) := [(ca 0, .int), (ca 1, .byte), (ca 2, .short), (ca 3, .char), (ca 4, .boolean), (ca 5, .object "SpiceThrees$Shop")]
def pow3 (j : Nat) : Int := match j with
  | 0 => 1 | 1 => 3 | 2 => 9 | 3 => 27 | 4 => 81 | 5 => 243 | 6 => 729 | 7 => 2187 | 8 => 6561 | _ => 0
def lenS : List Nat := [3, 4, 4, 4, 4, 4, 0]
def bytS : List (List Int32) := [[106, 97, 114], [114, 117, 108, 101], [119, 97, 110, 116], [100, 114, 111, 112], [112, 111, 117, 114], [109, 111, 114, 101], []]
def txtS : List String := ["jar", "rule", "want", "drop", "pour", "more", ""]
end
section
/-! what holds of a frame's start -/
def SF (ad : Nat → Nat) (A : Nat → Prop) (U : State) (H : Heap) : Prop :=
  va_Z "SpiceThrees" "POWERS" "[I" (.ref (ad 1000)) A U H ∧ va_T .int (ad 1000) 9 (fun j => .int (Int32.ofInt (pow3 j))) A U H ∧
  vk_S 7 lenS bytS (fun i => ad (1001 + i)) (fun i => ad (1101 + i)) A U H ∧ (∀ i : Nat, i < 7 → vk_R "SpiceThrees$Text" (78 + 2 * i) (txtS.getD i "") (ad (1001 + i)) U) ∧
  va_Z "java/lang/String" "COMPACT_STRINGS" "Z" (.int 1) A U H ∧ va_Zq "jdk/internal/util/Preconditions" "SIOOBE_FORMATTER" "Ljava/util/function/BiFunction;" A U H
theorem SF.move {ad : Nat → Nat} {A B : Nat → Prop} {s U : State} {H1 : Heap} {locs : List Loc} (h : SF ad A s s.heap) (hS : va_S A s.heap H1 locs) (hW : s.WarmedH U.vm) (hAB : ∀ q, B q → A q) : SF ad B U H1 := by
  obtain ⟨h1, h2, h3, h4, h5, h6⟩ := h
  refine ⟨((h1.kept hS.2.1).narrow hAB).moved hW.alike, ((h2.kept hS.2.1).narrow hAB).moved hW.alike, ((h3.kept hS.2.1).narrow hAB).moved hW.alike, fun i hi => (h4 i hi).warm hW, ((h5.kept hS.2.1).narrow hAB).moved hW.alike, ?_⟩
  have h7 := va_Zq.moved hW.alike (h6.kept hS.2.1)
  rcases h7 with h | ⟨t, h⟩
  · exact Or.inl (h.narrow hAB)
  · exact Or.inr ⟨t, h.narrow hAB⟩
theorem SF.calling {ad : Nat → Nat} {A : Nat → Prop} {U : State} {H : Heap} (g : JFrame) (mk : MethodId) (a : Array Value) (h : SF ad A U H) : SF ad A (U.calling g mk a) H := by
  obtain ⟨h1, h2, h3, h4, h5, h6⟩ := h
  exact ⟨va_Z.moved (u := U) (U := U.calling g mk a) (Vm.Alike.refl U.vm) h1, va_T.moved (u := U) (U := U.calling g mk a) (Vm.Alike.refl U.vm) h2, vk_S.moved (u := U) (U := U.calling g mk a) (Vm.Alike.refl U.vm) h3, fun i hi => vk_R.same (u := U) (U := U.calling g mk a) rfl (h4 i hi), va_Z.moved (u := U) (U := U.calling g mk a) (Vm.Alike.refl U.vm) h5, va_Zq.moved (u := U) (U := U.calling g mk a) (Vm.Alike.refl U.vm) h6⟩
/-- the world behind a method -/
def WB (sh : List Descr) (D : va_G) (ad : Nat → Nat) (ca : Nat → ClassId) (μ : Mem) (A : Nat → Prop) (t : State) : Prop := va_P D vwCl (wd sh ad ca μ) t.heap ∧ va_K D vwCl (tysC ca) t ∧ va_D A (wd sh ad ca μ) ∧ RM μ
def QQ (sh : List Descr) (D : va_G) (ad : Nat → Nat) (ca : Nat → ClassId) (r : Option PV) (μ : Mem) (A : Nat → Prop) : Array Value → State → Outcome → State → Prop := match r with
  | none => va_Qv (fun _ : Unit => True) (fun _ t => WB sh D ad ca μ A t) A
  | some (.inl x) => va_Qi (fun v (_ : Unit) => v = Int32.ofInt x ∧ inR x) (fun _ t => WB sh D ad ca μ A t) A
  | some (.inr k) => va_Qr (fun _ : Unit => True) (fun _ a t => a = ad k ∧ WB sh D ad ca μ A t) A
def Ent (ad : Nat → Nat) (D : va_G) (ca : Nat → ClassId) (Y : MR) (p : Program) (s : State) (m : MethodId) (args : Array Value) (meth : Method) (c : Code) (A : Nat → Prop) : Prop :=
  p.tables.exec = Jvm.exec ∧ c.code = Y.2.1 ∧ c.maxLocals = Y.2.2.1 ∧ s.vm.findClass Y.1.cls = some m.cls ∧ (∀ w ∈ WS, w.before args s = true) ∧ meth.sig.returnType = Y.2.2.2.1 ∧ meth.locks = false ∧ va_K D vwCl (tysC ca) s ∧ SF ad A s s.heap ∧ ∀ q : Nat, s.heap.size ≤ q → A q
/-- from pc on, with these locals, stack and memory, the method returns r, and leaves the memory μ' -/
def G (sh : List Descr) (l : Launch) (D : va_G) (ad : Nat → Nat) (ca : Nat → ClassId) (Y : MR) (pc : Nat) (L : List (Option PV)) (st : List PV) (μ : Mem) (r : Option PV) (μ' : Mem) : Prop :=
  ∀ (p : Program) (e : Env) (s : State) (m : MethodId) (args : Array Value) (below : List Frame) (meth : Method) (c : Code) (H : Heap) (ls : Array Slot) (locs : List Loc) (A : Nat → Prop),
    Ent ad D ca Y p s m args meth c A → va_P D vwCl (wd sh ad ca μ) H → va_D A (wd sh ad ca μ) → va_S A s.heap H locs → RM μ → Lv ad Y.2.2.1 L ls → RS st →
    W p l e (rmY Y) s m args below meth c H locs 0 0 (MQ below (QQ sh D ad ca r μ' A) args s 0 0 A) (F0 m pc ls (st.map (cv ad)))
def Pcc (sh : List Descr) (D : va_G) (ad : Nat → Nat) (ca : Nat → ClassId) (as : List PV) (μ : Mem) (sz : Nat) : Array Value → State → Prop :=
  va_Pc (as.map (cv ad)) (fun U => U.heap.size = sz ∧ va_P D vwCl (wd sh ad ca μ) U.heap ∧ va_K D vwCl (tysC ca) U ∧ va_D (fun _ => True) (wd sh ad ca μ) ∧ SF ad (va_A (wd sh ad ca μ) sz) U U.heap ∧ RM μ ∧ RS as)
/-- the method's contract -/
def GM (sh : List Descr) (l : Launch) (D : va_G) (ad : Nat → Nat) (ca : Nat → ClassId) (Y : MR) (as : List PV) (μ : Mem) (r : Option PV) (μ' : Mem) : Prop :=
  ∀ sz : Nat, Met l Y.1 (wsY Y) (rmY Y) (Pcc sh D ad ca as μ sz) (QQ sh D ad ca r μ' (va_A (wd sh ad ca μ) sz)) 0 0 (va_A (wd sh ad ca μ) sz)
theorem Pcc_blind (sh : List Descr) (D : va_G) (ad : Nat → Nat) (ca : Nat → ClassId) (as : List PV) (μ : Mem) (sz : Nat) : FrameBlind (Pcc sh D ad ca as μ sz) := fun a U g mk q => by
  obtain ⟨q0, q1, qP, qK, qD, qS, qM⟩ := q
  exact ⟨q0, q1, qP, va_K.moved (u := U) (U := U.calling g mk a) (Vm.Alike.refl U.vm) qK, qD, SF.calling g mk a qS, qM⟩
theorem cat_sum (ad : Nat → Nat) (as : List PV) : ((as.map (cv ad)).map fun v => v.category).sum = as.length := by
  induction as with
  | nil => rfl
  | cons a as ih => rw [List.map_cons, List.map_cons, List.sum_cons, ih, cv_cat, List.length_cons]; omega
theorem sl_len (ad : Nat → Nat) (as : List PV) : (lg_sl (as.map (cv ad))).length = as.length := by
  induction as with
  | nil => rfl
  | cons a as ih =>
    have e : lg_sl (cv ad a :: as.map (cv ad)) = [Slot.val (cv ad a)] ++ lg_sl (as.map (cv ad)) := by simp [lg_sl, cv_cat]
    rw [List.map_cons, e, List.length_append, ih]
    simp
    omega
theorem args_lvl (ad : Nat → Nat) (as : List PV) (n : Nat) : ∀ i, lvl ad (as.map some ++ List.replicate n none) i = lv_args i (as.map (cv ad)) := by
  induction as with
  | nil =>
    intro i
    show lvl ad (List.replicate n none) i = []
    induction n generalizing i with
    | zero => rfl
    | succ n ih => exact ih (i + 1)
  | cons a as ih =>
    intro i
    have e : lv_args i (cv ad a :: as.map (cv ad)) = (i, cv ad a) :: lv_args (i + 1) (as.map (cv ad)) := by rw [lv_args, cv_cat]; rfl
    rw [List.map_cons, List.map_cons, e, ← ih (i + 1)]
    rfl
/-- a method's contract out of its walk -/
theorem GM.of {sh : List Descr} {l : Launch} {D : va_G} {ad : Nat → Nat} {ca : Nat → ClassId} {Y : MR} {as : List PV} {μ μ' : Mem} {r : Option PV} {L : List (Option PV)} (hy : plainName Y.1.cls = true) (hL : L = as.map some ++ List.replicate (Y.2.2.1 - as.length) none) (hn : as.length ≤ Y.2.2.1)
    (h : G sh l D ad ca Y 0 L [] μ r μ') : GM sh l D ad ca Y as μ r μ' := by
  intro sz
  refine Met.ofW (cc := Y.2.1) (maxL := Y.2.2.1) (ret := Y.2.2.2.1) hy rfl ?_
  intro p e s m args below meth c s₁ B hml hv
  obtain ⟨rfl, hsz, hP, hK, hD0, hSF, hM, hR⟩ := hv
  have hts := atoms_spec (ws := wsY Y) B.pre
  have hown : s.vm.findClass Y.1.cls = some m.cls := findClass_of_methodNamed B.named
  subst hsz
  have hD := hD0.self (sz := s.heap.size)
  have hl := lv_entry (as.map (cv ad)) (n := Y.2.2.1) (by rw [sl_len]; exact hn)
  rw [lg_entry_eq]
  generalize (lg_sl (as.map (cv ad)) ++ List.replicate (Y.2.2.1 - (lg_sl (as.map (cv ad))).length) Slot.unset).toArray = ls at hl ⊢
  refine h p e s m _ below meth c s.heap ls [] _ ⟨B.exec, B.bytes, hml, hown, fun w hw => hts w (List.mem_cons_of_mem _ hw), B.returns, B.notSynchronized, hK, hSF, fun q hq => Or.inr hq⟩ hP hD va_S.rf hM ⟨?_, ?_, ?_⟩ RS_nil
  · rw [hL]; simp; omega
  · rw [hL, args_lvl]; exact hl
  · intro v hv
    rw [hL] at hv
    rcases List.mem_append.mp hv with h | h
    · obtain ⟨w, hw, e⟩ := List.mem_map.mp h
      cases e
      exact hR v hw
    · have := List.eq_of_mem_replicate h
      cases this
section GG
variable {sh : List Descr} {l : Launch} {D : va_G} {ad : Nat → Nat} {ca : Nat → ClassId} {Y : MR} {pc : Nat} {L : List (Option PV)} {st : List PV} {μ μ' : Mem} {r : Option PV}
theorem G.iconst {n : Int} (d : decode Y.2.1 pc = .ok (.iconst n, 1)) (hn : inR n) (k : G sh l D ad ca Y (pc + 1) L (.inl n :: st) μ r μ') : G sh l D ad ca Y pc L st μ r μ' :=
  fun p e s m args below meth c H ls locs A E hP hD hS hM hL hR => lv_iconst E.1 E.2.1 d rfl (k p e s m args below meth c H ls locs A E hP hD hS hM hL (RS_cons hn hR))
theorem G.bipush {n : Int} (d : decode Y.2.1 pc = .ok (.bipush n, 2)) (hn : inR n ∧ (Int8.ofInt n).toInt32 = Int32.ofInt n) (k : G sh l D ad ca Y (pc + 2) L (.inl n :: st) μ r μ') : G sh l D ad ca Y pc L st μ r μ' :=
  fun p e s m args below meth c H ls locs A E hP hD hS hM hL hR => lv_bipush E.1 E.2.1 d hn.2 (k p e s m args below meth c H ls locs A E hP hD hS hM hL (RS_cons hn.1 hR))
theorem G.sipush {n : Int} (d : decode Y.2.1 pc = .ok (.sipush n, 3)) (hn : inR n ∧ (Int16.ofInt n).toInt32 = Int32.ofInt n) (k : G sh l D ad ca Y (pc + 3) L (.inl n :: st) μ r μ') : G sh l D ad ca Y pc L st μ r μ' :=
  fun p e s m args below meth c H ls locs A E hP hD hS hM hL hR => lv_sipush E.1 E.2.1 d hn.2 (k p e s m args below meth c H ls locs A E hP hD hS hM hL (RS_cons hn.1 hR))
theorem G.ldcI {n : Int} {index : Nat} (d : decode Y.2.1 pc = .ok (.ldc index, 2)) (hw : Cond.constant Y.1.cls index (Int32.ofInt n) ∈ WS) (hn : inR n) (k : G sh l D ad ca Y (pc + 2) L (.inl n :: st) μ r μ') : G sh l D ad ca Y pc L st μ r μ' :=
  fun p e s m args below meth c H ls locs A E hP hD hS hM hL hR => lv_ldc E.1 E.2.1 E.2.2.2.1 (E.2.2.2.2.1 _ hw) d (k p e s m args below meth c H ls locs A E hP hD hS hM hL (RS_cons hn hR))
theorem G.iload_n {j : Fin 4} {i : Nat} {x : Int} (d : decode Y.2.1 pc = .ok (.iload_n j, 1)) (hi : (j : Nat) = i) (hx : L[i]? = some (some (.inl x))) (k : G sh l D ad ca Y (pc + 1) L (.inl x :: st) μ r μ') : G sh l D ad ca Y pc L st μ r μ' :=
  fun p e s m args below meth c H ls locs A E hP hD hS hM hL hR => lv_iload_n E.1 E.2.1 d hi (hL.get hx) (k p e s m args below meth c H ls locs A E hP hD hS hM hL (RS_cons (hL.pr hx) hR))
theorem G.iload {i : Nat} {x : Int} (d : decode Y.2.1 pc = .ok (.iload i, 2)) (hx : L[i]? = some (some (.inl x))) (k : G sh l D ad ca Y (pc + 2) L (.inl x :: st) μ r μ') : G sh l D ad ca Y pc L st μ r μ' :=
  fun p e s m args below meth c H ls locs A E hP hD hS hM hL hR => lv_iload E.1 E.2.1 d (hL.get hx) (k p e s m args below meth c H ls locs A E hP hD hS hM hL (RS_cons (hL.pr hx) hR))
theorem G.aload_n {j : Fin 4} {i : Nat} {x : Nat} (d : decode Y.2.1 pc = .ok (.aload_n j, 1)) (hi : (j : Nat) = i) (hx : L[i]? = some (some (.inr x))) (k : G sh l D ad ca Y (pc + 1) L (.inr x :: st) μ r μ') : G sh l D ad ca Y pc L st μ r μ' :=
  fun p e s m args below meth c H ls locs A E hP hD hS hM hL hR => lv_aload_n E.1 E.2.1 d hi (hL.get hx) (k p e s m args below meth c H ls locs A E hP hD hS hM hL (RS_cons trivial hR))
theorem G.aload {i : Nat} {x : Nat} (d : decode Y.2.1 pc = .ok (.aload i, 2)) (hx : L[i]? = some (some (.inr x))) (k : G sh l D ad ca Y (pc + 2) L (.inr x :: st) μ r μ') : G sh l D ad ca Y pc L st μ r μ' :=
  fun p e s m args below meth c H ls locs A E hP hD hS hM hL hR => lv_aload E.1 E.2.1 d (hL.get hx) (k p e s m args below meth c H ls locs A E hP hD hS hM hL (RS_cons trivial hR))
theorem G.istore_n {j : Fin 4} {i : Nat} {x : Int} (d : decode Y.2.1 pc = .ok (.istore_n j, 1)) (hi : (j : Nat) = i) (hn : i < Y.2.2.1) (k : G sh l D ad ca Y (pc + 1) (L.set i (some (.inl x))) st μ r μ') : G sh l D ad ca Y pc L (.inl x :: st) μ r μ' :=
  fun p e s m args below meth c H ls locs A E hP hD hS hM hL hR => lv_istore_n E.1 E.2.1 d hi hL.2.1 hn rfl (fun ls' h' => k p e s m args below meth c H ls' locs A E hP hD hS hM (hL.upd (v := .inl x) (RS_hd hR) h') (RS_tl hR))
theorem G.istore {i : Nat} {x : Int} (d : decode Y.2.1 pc = .ok (.istore i, 2)) (hn : i < Y.2.2.1) (k : G sh l D ad ca Y (pc + 2) (L.set i (some (.inl x))) st μ r μ') : G sh l D ad ca Y pc L (.inl x :: st) μ r μ' :=
  fun p e s m args below meth c H ls locs A E hP hD hS hM hL hR => lv_istore E.1 E.2.1 d hL.2.1 hn rfl (fun ls' h' => k p e s m args below meth c H ls' locs A E hP hD hS hM (hL.upd (v := .inl x) (RS_hd hR) h') (RS_tl hR))
theorem G.astore_n {j : Fin 4} {i : Nat} {x : Nat} (d : decode Y.2.1 pc = .ok (.astore_n j, 1)) (hi : (j : Nat) = i) (hn : i < Y.2.2.1) (k : G sh l D ad ca Y (pc + 1) (L.set i (some (.inr x))) st μ r μ') : G sh l D ad ca Y pc L (.inr x :: st) μ r μ' :=
  fun p e s m args below meth c H ls locs A E hP hD hS hM hL hR => lv_astore_n E.1 E.2.1 d hi hL.2.1 hn rfl (fun ls' h' => k p e s m args below meth c H ls' locs A E hP hD hS hM (hL.upd (v := .inr x) (RS_hd hR) h') (RS_tl hR))
theorem G.iinc {i : Nat} {n x : Int} (d : decode Y.2.1 pc = .ok (.iinc i n, 3)) (hx : L[i]? = some (some (.inl x))) (hn : i < Y.2.2.1) (k : G sh l D ad ca Y (pc + 3) (L.set i (some (.inl (w32 (x + n))))) st μ r μ') : G sh l D ad ca Y pc L st μ r μ' :=
  fun p e s m args below meth c H ls locs A E hP hD hS hM hL hR => by
    obtain ⟨q, hq⟩ := hL.idx hx
    exact lv_iinc E.1 E.2.1 d hL.2.1 hq (v := Int32.ofInt (w32 (x + n))) (by rw [oi_w32, Int32.ofInt_add]) hn rfl (fun ls' h' => k p e s m args below meth c H ls' locs A E hP hD hS hM (hL.upd (v := .inl (w32 (x + n))) (w32_in _) h') hR)
theorem G.dup {v : PV} (d : decode Y.2.1 pc = .ok (.dup, 1)) (k : G sh l D ad ca Y (pc + 1) L (v :: v :: st) μ r μ') : G sh l D ad ca Y pc L (v :: st) μ r μ' :=
  fun p e s m args below meth c H ls locs A E hP hD hS hM hL hR => lv_dup E.1 E.2.1 d (cv_cat ad v) (k p e s m args below meth c H ls locs A E hP hD hS hM hL (RS_cons (RS_hd hR) hR))
theorem G.pop {v : PV} (d : decode Y.2.1 pc = .ok (.pop, 1)) (k : G sh l D ad ca Y (pc + 1) L st μ r μ') : G sh l D ad ca Y pc L (v :: st) μ r μ' :=
  fun p e s m args below meth c H ls locs A E hP hD hS hM hL hR => lv_pop E.1 E.2.1 d (cv_cat ad v) (k p e s m args below meth c H ls locs A E hP hD hS hM hL (RS_tl hR))
theorem G.dup2 {v w : PV} (d : decode Y.2.1 pc = .ok (.dup2, 1)) (k : G sh l D ad ca Y (pc + 1) L (v :: w :: v :: w :: st) μ r μ') : G sh l D ad ca Y pc L (v :: w :: st) μ r μ' :=
  fun p e s m args below meth c H ls locs A E hP hD hS hM hL hR => lv_dup2_11 E.1 E.2.1 d (cv_cat ad v) (cv_cat ad w) (k p e s m args below meth c H ls locs A E hP hD hS hM hL (RS_cons (RS_hd hR) (RS_cons (RS_hd (RS_tl hR)) hR)))
theorem G.iadd {x y : Int} (d : decode Y.2.1 pc = .ok (.iadd, 1)) (k : G sh l D ad ca Y (pc + 1) L (.inl (w32 (x + y)) :: st) μ r μ') : G sh l D ad ca Y pc L (.inl y :: .inl x :: st) μ r μ' :=
  fun p e s m args below meth c H ls locs A E hP hD hS hM hL hR => lv_iadd E.1 E.2.1 d (by
    have h := k p e s m args below meth c H ls locs A E hP hD hS hM hL (RS_cons (w32_in _) (RS_tl (RS_tl hR)))
    simp only [List.map_cons, cv, oi_w32, Int32.ofInt_add] at h
    exact h)
theorem G.isub {x y : Int} (d : decode Y.2.1 pc = .ok (.isub, 1)) (k : G sh l D ad ca Y (pc + 1) L (.inl (w32 (x - y)) :: st) μ r μ') : G sh l D ad ca Y pc L (.inl y :: .inl x :: st) μ r μ' :=
  fun p e s m args below meth c H ls locs A E hP hD hS hM hL hR => lv_isub E.1 E.2.1 d (by
    have h := k p e s m args below meth c H ls locs A E hP hD hS hM hL (RS_cons (w32_in _) (RS_tl (RS_tl hR)))
    simp only [List.map_cons, cv, oi_w32, Int32.ofInt_sub] at h
    exact h)
theorem G.imul {x y : Int} (d : decode Y.2.1 pc = .ok (.imul, 1)) (k : G sh l D ad ca Y (pc + 1) L (.inl (w32 (x * y)) :: st) μ r μ') : G sh l D ad ca Y pc L (.inl y :: .inl x :: st) μ r μ' :=
  fun p e s m args below meth c H ls locs A E hP hD hS hM hL hR => lv_imul E.1 E.2.1 d (by
    have h := k p e s m args below meth c H ls locs A E hP hD hS hM hL (RS_cons (w32_in _) (RS_tl (RS_tl hR)))
    simp only [List.map_cons, cv, oi_w32, Int32.ofInt_mul] at h
    exact h)
theorem oi_ne0 {y : Int} (hy : inR y) (h : y ≠ 0) : ¬ Int32.ofInt y = 0 := fun e => h ((oi_inj hy (by decide : inR 0)).mp e)
theorem G.idiv {x y : Int} (d : decode Y.2.1 pc = .ok (.idiv, 1)) (hy : y ≠ 0) (k : G sh l D ad ca Y (pc + 1) L (.inl (w32 (x.tdiv y)) :: st) μ r μ') : G sh l D ad ca Y pc L (.inl y :: .inl x :: st) μ r μ' :=
  fun p e s m args below meth c H ls locs A E hP hD hS hM hL hR => lv_idiv E.1 E.2.1 d (oi_ne0 (RS_hd hR) hy) (by
    have h := k p e s m args below meth c H ls locs A E hP hD hS hM hL (RS_cons (w32_in _) (RS_tl (RS_tl hR)))
    rw [oi_div (RS_hd (RS_tl hR)) (RS_hd hR)]
    exact h)
theorem G.irem {x y : Int} (d : decode Y.2.1 pc = .ok (.irem, 1)) (hy : y ≠ 0) (k : G sh l D ad ca Y (pc + 1) L (.inl (x.tmod y) :: st) μ r μ') : G sh l D ad ca Y pc L (.inl y :: .inl x :: st) μ r μ' :=
  fun p e s m args below meth c H ls locs A E hP hD hS hM hL hR => lv_irem E.1 E.2.1 d (oi_ne0 (RS_hd hR) hy) (by
    have h := k p e s m args below meth c H ls locs A E hP hD hS hM hL (RS_cons (tmod_in (RS_hd (RS_tl hR))) (RS_tl (RS_tl hR)))
    rw [oi_rem (RS_hd (RS_tl hR)) (RS_hd hR)]
    exact h)
theorem G.iand {x y : Int} (d : decode Y.2.1 pc = .ok (.iand, 1)) (k : G sh l D ad ca Y (pc + 1) L (.inl (and32 x y) :: st) μ r μ') : G sh l D ad ca Y pc L (.inl y :: .inl x :: st) μ r μ' :=
  fun p e s m args below meth c H ls locs A E hP hD hS hM hL hR => lv_iand E.1 E.2.1 d (by
    have h := k p e s m args below meth c H ls locs A E hP hD hS hM hL (RS_cons (to_in _) (RS_tl (RS_tl hR)))
    simp only [List.map_cons, cv, and32, Int32.ofInt_toInt] at h
    exact h)
theorem G.ior {x y : Int} (d : decode Y.2.1 pc = .ok (.ior, 1)) (k : G sh l D ad ca Y (pc + 1) L (.inl (or32 x y) :: st) μ r μ') : G sh l D ad ca Y pc L (.inl y :: .inl x :: st) μ r μ' :=
  fun p e s m args below meth c H ls locs A E hP hD hS hM hL hR => lv_ior E.1 E.2.1 d (by
    have h := k p e s m args below meth c H ls locs A E hP hD hS hM hL (RS_cons (to_in _) (RS_tl (RS_tl hR)))
    simp only [List.map_cons, cv, or32, Int32.ofInt_toInt] at h
    exact h)
theorem G.ishl {x y : Int} (d : decode Y.2.1 pc = .ok (.ishl, 1)) (k : G sh l D ad ca Y (pc + 1) L (.inl (shl32 x y) :: st) μ r μ') : G sh l D ad ca Y pc L (.inl y :: .inl x :: st) μ r μ' :=
  fun p e s m args below meth c H ls locs A E hP hD hS hM hL hR => lv_ishl E.1 E.2.1 d (by
    have h := k p e s m args below meth c H ls locs A E hP hD hS hM hL (RS_cons (to_in _) (RS_tl (RS_tl hR)))
    simp only [List.map_cons, cv, shl32, Int32.ofInt_toInt] at h
    exact h)
theorem G.iushr {x y : Int} (d : decode Y.2.1 pc = .ok (.iushr, 1)) (k : G sh l D ad ca Y (pc + 1) L (.inl (ushr32 x y) :: st) μ r μ') : G sh l D ad ca Y pc L (.inl y :: .inl x :: st) μ r μ' :=
  fun p e s m args below meth c H ls locs A E hP hD hS hM hL hR => lv_iushr E.1 E.2.1 d rfl (by
    have h := k p e s m args below meth c H ls locs A E hP hD hS hM hL (RS_cons (to_in _) (RS_tl (RS_tl hR)))
    simp only [List.map_cons, cv, ushr32, Int32.ofInt_toInt] at h
    exact h)
theorem G.i2b {x : Int} (d : decode Y.2.1 pc = .ok (.i2b, 1)) (k : G sh l D ad ca Y (pc + 1) L (.inl (n8 x) :: st) μ r μ') : G sh l D ad ca Y pc L (.inl x :: st) μ r μ' :=
  fun p e s m args below meth c H ls locs A E hP hD hS hM hL hR => lv_i2b E.1 E.2.1 d (Int32.ofInt_toInt _).symm (k p e s m args below meth c H ls locs A E hP hD hS hM hL (RS_cons (to_in _) (RS_tl hR)))
theorem G.i2s {x : Int} (d : decode Y.2.1 pc = .ok (.i2s, 1)) (k : G sh l D ad ca Y (pc + 1) L (.inl (n16 x) :: st) μ r μ') : G sh l D ad ca Y pc L (.inl x :: st) μ r μ' :=
  fun p e s m args below meth c H ls locs A E hP hD hS hM hL hR => lv_i2s E.1 E.2.1 d (Int32.ofInt_toInt _).symm (k p e s m args below meth c H ls locs A E hP hD hS hM hL (RS_cons (to_in _) (RS_tl hR)))
theorem G.i2c {x : Int} (d : decode Y.2.1 pc = .ok (.i2c, 1)) (k : G sh l D ad ca Y (pc + 1) L (.inl (nch x) :: st) μ r μ') : G sh l D ad ca Y pc L (.inl x :: st) μ r μ' :=
  fun p e s m args below meth c H ls locs A E hP hD hS hM hL hR => lv_i2c E.1 E.2.1 d (Int32.ofInt_toInt _).symm (k p e s m args below meth c H ls locs A E hP hD hS hM hL (RS_cons (to_in _) (RS_tl hR)))
theorem G.goto {off : Int} (tgt : Nat) (d : decode Y.2.1 pc = .ok (.goto off, 3)) (ht : (pc : Int) + off = (tgt : Int)) (k : G sh l D ad ca Y tgt L st μ r μ') : G sh l D ad ca Y pc L st μ r μ' :=
  fun p e s m args below meth c H ls locs A E hP hD hS hM hL hR => lv_goto E.1 E.2.1 d ht (k p e s m args below meth c H ls locs A E hP hD hS hM hL hR)
theorem G.icmp_eq {x y off : Int} (tgt : Nat) (d : decode Y.2.1 pc = .ok (.if_icmp .eq off, 3)) (ht : (pc : Int) + off = (tgt : Int)) (kt : x = y → G sh l D ad ca Y tgt L st μ r μ') (kf : ¬ x = y → G sh l D ad ca Y (pc + 3) L st μ r μ') : G sh l D ad ca Y pc L (.inl y :: .inl x :: st) μ r μ' :=
  fun p e s m args below meth c H ls locs A E hP hD hS hM hL hR => lv_icmp_eq E.1 E.2.1 d ht (fun h => kt ((oi_inj (RS_hd (RS_tl hR)) (RS_hd hR)).mp h) p e s m args below meth c H ls locs A E hP hD hS hM hL (RS_tl (RS_tl hR))) (fun h => kf (fun h2 => h (by rw [h2])) p e s m args below meth c H ls locs A E hP hD hS hM hL (RS_tl (RS_tl hR)))
theorem G.icmp_ne {x y off : Int} (tgt : Nat) (d : decode Y.2.1 pc = .ok (.if_icmp .ne off, 3)) (ht : (pc : Int) + off = (tgt : Int)) (kt : ¬ x = y → G sh l D ad ca Y tgt L st μ r μ') (kf : x = y → G sh l D ad ca Y (pc + 3) L st μ r μ') : G sh l D ad ca Y pc L (.inl y :: .inl x :: st) μ r μ' :=
  fun p e s m args below meth c H ls locs A E hP hD hS hM hL hR => lv_icmp_ne E.1 E.2.1 d ht (fun h => kt (fun h2 => h (by rw [h2])) p e s m args below meth c H ls locs A E hP hD hS hM hL (RS_tl (RS_tl hR))) (fun h => kf ((oi_inj (RS_hd (RS_tl hR)) (RS_hd hR)).mp h) p e s m args below meth c H ls locs A E hP hD hS hM hL (RS_tl (RS_tl hR)))
theorem G.icmp_lt {x y off : Int} (tgt : Nat) (d : decode Y.2.1 pc = .ok (.if_icmp .lt off, 3)) (ht : (pc : Int) + off = (tgt : Int)) (kt : x < y → G sh l D ad ca Y tgt L st μ r μ') (kf : ¬ x < y → G sh l D ad ca Y (pc + 3) L st μ r μ') : G sh l D ad ca Y pc L (.inl y :: .inl x :: st) μ r μ' :=
  fun p e s m args below meth c H ls locs A E hP hD hS hM hL hR => lv_icmp_lt E.1 E.2.1 d ht (fun h => kt ((oi_lt (RS_hd (RS_tl hR)) (RS_hd hR)).mp h) p e s m args below meth c H ls locs A E hP hD hS hM hL (RS_tl (RS_tl hR))) (fun h => kf (fun h2 => h ((oi_lt (RS_hd (RS_tl hR)) (RS_hd hR)).mpr h2)) p e s m args below meth c H ls locs A E hP hD hS hM hL (RS_tl (RS_tl hR)))
theorem G.icmp_ge {x y off : Int} (tgt : Nat) (d : decode Y.2.1 pc = .ok (.if_icmp .ge off, 3)) (ht : (pc : Int) + off = (tgt : Int)) (kt : y ≤ x → G sh l D ad ca Y tgt L st μ r μ') (kf : ¬ y ≤ x → G sh l D ad ca Y (pc + 3) L st μ r μ') : G sh l D ad ca Y pc L (.inl y :: .inl x :: st) μ r μ' :=
  fun p e s m args below meth c H ls locs A E hP hD hS hM hL hR => lv_icmp_ge E.1 E.2.1 d ht (fun h => kt ((oi_le (RS_hd hR) (RS_hd (RS_tl hR))).mp h) p e s m args below meth c H ls locs A E hP hD hS hM hL (RS_tl (RS_tl hR))) (fun h => kf (fun h2 => h ((oi_le (RS_hd hR) (RS_hd (RS_tl hR))).mpr h2)) p e s m args below meth c H ls locs A E hP hD hS hM hL (RS_tl (RS_tl hR)))
theorem G.icmp_gt {x y off : Int} (tgt : Nat) (d : decode Y.2.1 pc = .ok (.if_icmp .gt off, 3)) (ht : (pc : Int) + off = (tgt : Int)) (kt : y < x → G sh l D ad ca Y tgt L st μ r μ') (kf : ¬ y < x → G sh l D ad ca Y (pc + 3) L st μ r μ') : G sh l D ad ca Y pc L (.inl y :: .inl x :: st) μ r μ' :=
  fun p e s m args below meth c H ls locs A E hP hD hS hM hL hR => lv_icmp_gt E.1 E.2.1 d ht (fun h => kt ((oi_lt (RS_hd hR) (RS_hd (RS_tl hR))).mp h) p e s m args below meth c H ls locs A E hP hD hS hM hL (RS_tl (RS_tl hR))) (fun h => kf (fun h2 => h ((oi_lt (RS_hd hR) (RS_hd (RS_tl hR))).mpr h2)) p e s m args below meth c H ls locs A E hP hD hS hM hL (RS_tl (RS_tl hR)))
theorem G.icmp_le {x y off : Int} (tgt : Nat) (d : decode Y.2.1 pc = .ok (.if_icmp .le off, 3)) (ht : (pc : Int) + off = (tgt : Int)) (kt : x ≤ y → G sh l D ad ca Y tgt L st μ r μ') (kf : ¬ x ≤ y → G sh l D ad ca Y (pc + 3) L st μ r μ') : G sh l D ad ca Y pc L (.inl y :: .inl x :: st) μ r μ' :=
  fun p e s m args below meth c H ls locs A E hP hD hS hM hL hR => lv_icmp_le E.1 E.2.1 d ht (fun h => kt ((oi_le (RS_hd (RS_tl hR)) (RS_hd hR)).mp h) p e s m args below meth c H ls locs A E hP hD hS hM hL (RS_tl (RS_tl hR))) (fun h => kf (fun h2 => h ((oi_le (RS_hd (RS_tl hR)) (RS_hd hR)).mpr h2)) p e s m args below meth c H ls locs A E hP hD hS hM hL (RS_tl (RS_tl hR)))
theorem G.if_lt {x off : Int} (tgt : Nat) (d : decode Y.2.1 pc = .ok (.ifCond .lt off, 3)) (ht : (pc : Int) + off = (tgt : Int)) (kt : x < 0 → G sh l D ad ca Y tgt L st μ r μ') (kf : ¬ x < 0 → G sh l D ad ca Y (pc + 3) L st μ r μ') : G sh l D ad ca Y pc L (.inl x :: st) μ r μ' :=
  fun p e s m args below meth c H ls locs A E hP hD hS hM hL hR => lv_if_lt E.1 E.2.1 d ht (fun h => kt ((oi_lt (RS_hd hR) (by decide : inR 0)).mp h) p e s m args below meth c H ls locs A E hP hD hS hM hL (RS_tl hR)) (fun h => kf (fun h2 => h ((oi_lt (RS_hd hR) (by decide : inR 0)).mpr h2)) p e s m args below meth c H ls locs A E hP hD hS hM hL (RS_tl hR))
theorem G.if_ge {x off : Int} (tgt : Nat) (d : decode Y.2.1 pc = .ok (.ifCond .ge off, 3)) (ht : (pc : Int) + off = (tgt : Int)) (kt : 0 ≤ x → G sh l D ad ca Y tgt L st μ r μ') (kf : ¬ 0 ≤ x → G sh l D ad ca Y (pc + 3) L st μ r μ') : G sh l D ad ca Y pc L (.inl x :: st) μ r μ' :=
  fun p e s m args below meth c H ls locs A E hP hD hS hM hL hR => lv_if_ge E.1 E.2.1 d ht (fun h => kt ((oi_le (by decide : inR 0) (RS_hd hR)).mp h) p e s m args below meth c H ls locs A E hP hD hS hM hL (RS_tl hR)) (fun h => kf (fun h2 => h ((oi_le (by decide : inR 0) (RS_hd hR)).mpr h2)) p e s m args below meth c H ls locs A E hP hD hS hM hL (RS_tl hR))
theorem G.if_gt {x off : Int} (tgt : Nat) (d : decode Y.2.1 pc = .ok (.ifCond .gt off, 3)) (ht : (pc : Int) + off = (tgt : Int)) (kt : 0 < x → G sh l D ad ca Y tgt L st μ r μ') (kf : ¬ 0 < x → G sh l D ad ca Y (pc + 3) L st μ r μ') : G sh l D ad ca Y pc L (.inl x :: st) μ r μ' :=
  fun p e s m args below meth c H ls locs A E hP hD hS hM hL hR => lv_if_gt E.1 E.2.1 d ht (fun h => kt ((oi_lt (by decide : inR 0) (RS_hd hR)).mp h) p e s m args below meth c H ls locs A E hP hD hS hM hL (RS_tl hR)) (fun h => kf (fun h2 => h ((oi_lt (by decide : inR 0) (RS_hd hR)).mpr h2)) p e s m args below meth c H ls locs A E hP hD hS hM hL (RS_tl hR))
theorem G.if_le {x off : Int} (tgt : Nat) (d : decode Y.2.1 pc = .ok (.ifCond .le off, 3)) (ht : (pc : Int) + off = (tgt : Int)) (kt : x ≤ 0 → G sh l D ad ca Y tgt L st μ r μ') (kf : ¬ x ≤ 0 → G sh l D ad ca Y (pc + 3) L st μ r μ') : G sh l D ad ca Y pc L (.inl x :: st) μ r μ' :=
  fun p e s m args below meth c H ls locs A E hP hD hS hM hL hR => lv_if_le E.1 E.2.1 d ht (fun h => kt ((oi_le (RS_hd hR) (by decide : inR 0)).mp h) p e s m args below meth c H ls locs A E hP hD hS hM hL (RS_tl hR)) (fun h => kf (fun h2 => h ((oi_le (RS_hd hR) (by decide : inR 0)).mpr h2)) p e s m args below meth c H ls locs A E hP hD hS hM hL (RS_tl hR))
theorem G.if_eq {x off : Int} (tgt : Nat) (d : decode Y.2.1 pc = .ok (.ifCond .eq off, 3)) (ht : (pc : Int) + off = (tgt : Int)) (kt : x = 0 → G sh l D ad ca Y tgt L st μ r μ') (kf : ¬ x = 0 → G sh l D ad ca Y (pc + 3) L st μ r μ') : G sh l D ad ca Y pc L (.inl x :: st) μ r μ' :=
  fun p e s m args below meth c H ls locs A E hP hD hS hM hL hR => lv_if_eq E.1 E.2.1 d ht (fun h => kt ((oi_inj (RS_hd hR) (by decide : inR 0)).mp h) p e s m args below meth c H ls locs A E hP hD hS hM hL (RS_tl hR)) (fun h => kf (fun h2 => h ((oi_inj (RS_hd hR) (by decide : inR 0)).mpr h2)) p e s m args below meth c H ls locs A E hP hD hS hM hL (RS_tl hR))
theorem G.if_ne {x off : Int} (tgt : Nat) (d : decode Y.2.1 pc = .ok (.ifCond .ne off, 3)) (ht : (pc : Int) + off = (tgt : Int)) (kt : ¬ x = 0 → G sh l D ad ca Y tgt L st μ r μ') (kf : x = 0 → G sh l D ad ca Y (pc + 3) L st μ r μ') : G sh l D ad ca Y pc L (.inl x :: st) μ r μ' :=
  fun p e s m args below meth c H ls locs A E hP hD hS hM hL hR => lv_if_ne E.1 E.2.1 d ht (fun h => kt (fun h2 => h ((oi_inj (RS_hd hR) (by decide : inR 0)).mpr h2)) p e s m args below meth c H ls locs A E hP hD hS hM hL (RS_tl hR)) (fun h => kf ((oi_inj (RS_hd hR) (by decide : inR 0)).mp h) p e s m args below meth c H ls locs A E hP hD hS hM hL (RS_tl hR))
theorem G.tsOut {dflt lo hi x : Int} {offs : Array Int} {len : Nat} (tgt : Nat) (d : decode Y.2.1 pc = .ok (.tableswitch dflt lo hi offs, len)) (h : x < lo ∨ hi < x) (ht : (pc : Int) + dflt = (tgt : Int)) (k : G sh l D ad ca Y tgt L st μ r μ') : G sh l D ad ca Y pc L (.inl x :: st) μ r μ' :=
  fun p e s m args below meth c H ls locs A E hP hD hS hM hL hR => lv_tableOut E.1 E.2.1 d (by rw [oi_toR (RS_hd hR)]; exact h) ht (k p e s m args below meth c H ls locs A E hP hD hS hM hL (RS_tl hR))
theorem G.tsIn {dflt lo hi x off : Int} {offs : Array Int} {len : Nat} (v : Int) (tgt : Nat) (d : decode Y.2.1 pc = .ok (.tableswitch dflt lo hi offs, len)) (hv : x = v) (h1 : ¬ v < lo) (h2 : ¬ hi < v) (ho : offs[(v - lo).toNat]? = some off) (ht : (pc : Int) + off = (tgt : Int)) (k : G sh l D ad ca Y tgt L st μ r μ') : G sh l D ad ca Y pc L (.inl x :: st) μ r μ' :=
  fun p e s m args below meth c H ls locs A E hP hD hS hM hL hR => lv_tableIn E.1 E.2.1 d (by rw [oi_toR (RS_hd hR), hv]; exact h1) (by rw [oi_toR (RS_hd hR), hv]; exact h2) (by rw [oi_toR (RS_hd hR), hv]; exact ho) ht (k p e s m args below meth c H ls locs A E hP hD hS hM hL (RS_tl hR))
theorem G.iret {x : Int} (d : decode Y.2.1 pc = .ok (.ireturn, 1)) (ht : Y.2.2.2.1 = some .int) : G sh l D ad ca Y pc L (.inl x :: []) μ (some (.inl x)) μ :=
  fun p e s m args below meth c H ls locs A E hP hD hS hM hL hR => W.iret E.1 E.2.1 (E.2.2.2.2.2.1.trans ht) (fun t ht hW => ⟨⟨Int32.ofInt x, (), rfl, ⟨rfl, RS_hd hR⟩, by rw [ht]; exact hP, va_K.moved hW.alike E.2.2.2.2.2.2.2.1, hD, hM⟩, hS.F ht⟩) hS.2.2 d E.2.2.2.2.2.2.1
theorem G.zret {x : Int} (ty : FieldType) (d : decode Y.2.1 pc = .ok (.ireturn, 1)) (ht : Y.2.2.2.1 = some ty) (hn : narrow ty (.int (Int32.ofInt x)) = .int (Int32.ofInt x)) : G sh l D ad ca Y pc L (.inl x :: []) μ (some (.inl x)) μ :=
  fun p e s m args below meth c H ls locs A E hP hD hS hM hL hR => W.zret E.1 E.2.1 (E.2.2.2.2.2.1.trans ht) hn (fun t ht hW => ⟨⟨Int32.ofInt x, (), rfl, ⟨rfl, RS_hd hR⟩, by rw [ht]; exact hP, va_K.moved hW.alike E.2.2.2.2.2.2.2.1, hD, hM⟩, hS.F ht⟩) hS.2.2 d E.2.2.2.2.2.2.1
theorem G.vret (d : decode Y.2.1 pc = .ok (.return_, 1)) (ht : Y.2.2.2.1 = none) : G sh l D ad ca Y pc L [] μ none μ :=
  fun p e s m args below meth c H ls locs A E hP hD hS hM hL hR => W.vret E.1 E.2.1 (E.2.2.2.2.2.1.trans ht) (fun t ht hW => ⟨⟨(), rfl, trivial, by rw [ht]; exact hP, va_K.moved hW.alike E.2.2.2.2.2.2.2.1, hD, hM⟩, hS.F ht⟩) hS.2.2 d E.2.2.2.2.2.2.1
theorem G.aret {k : Nat} (rt : FieldType) (d : decode Y.2.1 pc = .ok (.areturn, 1)) (ht : Y.2.2.2.1 = some rt) (hrt : (∃ n, rt = .object n) ∨ ∃ t, rt = .array t) : G sh l D ad ca Y pc L (.inr k :: []) μ (some (.inr k)) μ :=
  fun p e s m args below meth c H ls locs A E hP hD hS hM hL hR => W.aret E.1 E.2.1 (E.2.2.2.2.2.1.trans ht) hrt (Or.inr ⟨_, rfl⟩) (fun t ht hW => ⟨⟨(), ad k, rfl, trivial, rfl, by rw [ht]; exact hP, va_K.moved hW.alike E.2.2.2.2.2.2.2.1, hD, hM⟩, hS.F ht⟩) hS.2.2 d E.2.2.2.2.2.2.1
/-- a class of the worlds -/
def CK (ci : Nat) (C : String) (T : u_T) (N : Nat) (ty : Nat → FieldType) : Prop := vwCl[ci]? = some (C, T, N) ∧ (∀ w ∈ u_ws C T N, w ∈ WS) ∧ (∀ k, k < N → parseFieldDescriptor (T k).2.2.1 = some (ty k)) ∧ ∀ a, a < N → ∀ b, b < N → a ≠ b → (T a).2.1 ≠ (T b).2.1
theorem G.getI {ci j N k index : Nat} {C : String} {T : u_T} {ty : Nat → FieldType} {fs : List (Option Nat)} (ck : CK ci C T N ty) (hs : sh[k]? = some (.inl (ci, fs))) (j : Nat) (hf : fs[j]? = some none) (hj : j < N) (hl : Cond.fieldLink Y.1.cls index (T j).1 (T j).2.1 (T j).2.2.1 ∈ WS) (d : decode Y.2.1 pc = .ok (.getfield index, 3))
    (kk : G sh l D ad ca Y (pc + 3) L (.inl (μ k j) :: st) μ r μ') : G sh l D ad ca Y pc L (.inr k :: st) μ r μ' :=
  fun p e s m args below meth c H ls locs A E hP hD hS hM hL hR => va_get (D := D) E.1 E.2.1 (Ts := WS) E.2.2.2.2.1 ck.2.1 E.2.2.2.1 E.2.2.2.2.2.2.2.1 hP k (wd_get hs) ck.1 j hj (E.2.2.2.2.1 _ hl) (fun _ h => h) (v := .int (Int32.ofInt (μ k j))) (by rw [List.getElem?_mapIdx, hf]; rfl) d (kk p e s m args below meth c H ls locs A E hP hD hS hM hL (RS_cons (hM k j) (RS_tl hR)))
theorem G.getR {ci N k k2 index : Nat} {C : String} {T : u_T} {ty : Nat → FieldType} {fs : List (Option Nat)} (ck : CK ci C T N ty) (hs : sh[k]? = some (.inl (ci, fs))) (j : Nat) (hf : fs[j]? = some (some k2)) (hj : j < N) (hl : Cond.fieldLink Y.1.cls index (T j).1 (T j).2.1 (T j).2.2.1 ∈ WS) (d : decode Y.2.1 pc = .ok (.getfield index, 3))
    (kk : G sh l D ad ca Y (pc + 3) L (.inr k2 :: st) μ r μ') : G sh l D ad ca Y pc L (.inr k :: st) μ r μ' :=
  fun p e s m args below meth c H ls locs A E hP hD hS hM hL hR => va_get (D := D) E.1 E.2.1 (Ts := WS) E.2.2.2.2.1 ck.2.1 E.2.2.2.1 E.2.2.2.2.2.2.2.1 hP k (wd_get hs) ck.1 j hj (E.2.2.2.2.1 _ hl) (fun _ h => h) (v := .ref (ad k2)) (by rw [List.getElem?_mapIdx, hf]; rfl) d (kk p e s m args below meth c H ls locs A E hP hD hS hM hL (RS_cons trivial (RS_tl hR)))
theorem G.getIN {ci N k index : Nat} {C host : String} {T : u_T} {ty : Nat → FieldType} {fs : List (Option Nat)} (ck : CK ci C T N ty) (hs : sh[k]? = some (.inl (ci, fs))) (j : Nat) (hf : fs[j]? = some none) (hj : j < N) (hl : Cond.fieldLinkNest Y.1.cls index (T j).1 (T j).2.1 (T j).2.2.1 host ∈ lw_tbl) (d : decode Y.2.1 pc = .ok (.getfield index, 3))
    (hl2 : goodWord (Cond.fieldLinkNest Y.1.cls index (T j).1 (T j).2.1 (T j).2.2.1 host) = true) (kk : G sh l D ad ca Y (pc + 3) L (.inl (μ k j) :: st) μ r μ') : G sh l D ad ca Y pc L (.inr k :: st) μ r μ' :=
  fun p e s m args below meth c H ls locs A E hP hD hS hM hL hR => va_getN (D := D) E.1 E.2.1 (Ts := WS) E.2.2.2.2.1 ck.2.1 E.2.2.2.1 E.2.2.2.2.2.2.2.1 hP k (wd_get hs) ck.1 j hj (E.2.2.2.2.1 _ (List.mem_filter.mpr ⟨hl, hl2⟩)) (fun _ h => h) (v := .int (Int32.ofInt (μ k j))) (by rw [List.getElem?_mapIdx, hf]; rfl) d (kk p e s m args below meth c H ls locs A E hP hD hS hM hL (RS_cons (hM k j) (RS_tl hR)))
theorem G.putI {ci N k index : Nat} {C : String} {T : u_T} {ty : Nat → FieldType} {fs : List (Option Nat)} {x : Int} (ck : CK ci C T N ty) (hs : sh[k]? = some (.inl (ci, fs))) (j : Nat) (hf : fs[j]? = some none) (hj : j < N) (hl : Cond.fieldLink Y.1.cls index (T j).1 (T j).2.1 (T j).2.2.1 ∈ WS) (hfin : (T j).2.2.2 = false) (hn : narrow (ty j) (.int (Int32.ofInt x)) = .int (Int32.ofInt x)) (hfit : fits (ty j) (.int (Int32.ofInt x)) = true) (d : decode Y.2.1 pc = .ok (.putfield index, 3))
    (kk : G sh l D ad ca Y (pc + 3) L st (mst μ k j x) r μ') : G sh l D ad ca Y pc L (.inl x :: .inr k :: st) μ r μ' :=
  fun p e s m args below meth c H ls locs A E hP hD hS hM hL hR => va_put (D := D) E.1 E.2.1 (Ts := WS) E.2.2.2.2.1 ck.2.1 ty ck.2.2.1 ck.2.2.2 E.2.2.2.1 E.2.2.2.2.2.2.2.1 hP hD hS k (wd_get hs) ck.1 j hj (E.2.2.2.2.1 _ hl) (fun _ h => h) hfin (ck.2.2.1 j hj) hn hfit (by rw [List.length_mapIdx]; exact (List.getElem?_eq_some_iff.mp hf).1) d
    (fun H1 locs1 hP1 hD1 hS1 => by
      have e1 := wd_fld (ad := ad) (ca := ca) (μ := μ) (x := x) hs hf
      replace hP1 := e1 ▸ hP1
      replace hD1 := e1 ▸ hD1
      exact kk p e s m args below meth c H1 ls locs1 A E hP1 hD1 hS1 (RM_mst hM k j (RS_hd hR)) hL (RS_tl (RS_tl hR)))
end GG
end
section
section G2
variable {sh : List Descr} {l : Launch} {D : va_G} {ad : Nat → Nat} {ca : Nat → ClassId} {Y : MR} {pc : Nat} {L : List (Option PV)} {st : List PV} {μ μ' : Mem} {r : Option PV}
theorem G.putIN {ci N k index : Nat} {C host : String} {T : u_T} {ty : Nat → FieldType} {fs : List (Option Nat)} {x : Int} (ck : CK ci C T N ty) (hs : sh[k]? = some (.inl (ci, fs))) (j : Nat) (hf : fs[j]? = some none) (hj : j < N) (hl : Cond.fieldLinkNest Y.1.cls index (T j).1 (T j).2.1 (T j).2.2.1 host ∈ WS) (hfin : (T j).2.2.2 = false) (hn : narrow (ty j) (.int (Int32.ofInt x)) = .int (Int32.ofInt x)) (hfit : fits (ty j) (.int (Int32.ofInt x)) = true) (d : decode Y.2.1 pc = .ok (.putfield index, 3))
    (kk : G sh l D ad ca Y (pc + 3) L st (mst μ k j x) r μ') : G sh l D ad ca Y pc L (.inl x :: .inr k :: st) μ r μ' :=
  fun p e s m args below meth c H ls locs A E hP hD hS hM hL hR => va_putN (D := D) E.1 E.2.1 (Ts := WS) E.2.2.2.2.1 ck.2.1 ty ck.2.2.1 ck.2.2.2 E.2.2.2.1 E.2.2.2.2.2.2.2.1 hP hD hS k (wd_get hs) ck.1 j hj (E.2.2.2.2.1 _ hl) (fun _ h => h) hfin (ck.2.2.1 j hj) hn hfit (by rw [List.length_mapIdx]; exact (List.getElem?_eq_some_iff.mp hf).1) d
    (fun H1 locs1 hP1 hD1 hS1 => by
      have e1 := wd_fld (ad := ad) (ca := ca) (μ := μ) (x := x) hs hf
      replace hP1 := e1 ▸ hP1
      replace hD1 := e1 ▸ hD1
      exact kk p e s m args below meth c H1 ls locs1 A E hP1 hD1 hS1 (RM_mst hM k j (RS_hd hR)) hL (RS_tl (RS_tl hR)))
theorem G.getRN {ci N k k2 index : Nat} {C host : String} {T : u_T} {ty : Nat → FieldType} {fs : List (Option Nat)} (ck : CK ci C T N ty) (hs : sh[k]? = some (.inl (ci, fs))) (j : Nat) (hf : fs[j]? = some (some k2)) (hj : j < N) (hl : Cond.fieldLinkNest Y.1.cls index (T j).1 (T j).2.1 (T j).2.2.1 host ∈ WS) (d : decode Y.2.1 pc = .ok (.getfield index, 3))
    (kk : G sh l D ad ca Y (pc + 3) L (.inr k2 :: st) μ r μ') : G sh l D ad ca Y pc L (.inr k :: st) μ r μ' :=
  fun p e s m args below meth c H ls locs A E hP hD hS hM hL hR => va_getN (D := D) E.1 E.2.1 (Ts := WS) E.2.2.2.2.1 ck.2.1 E.2.2.2.1 E.2.2.2.2.2.2.2.1 hP k (wd_get hs) ck.1 j hj (E.2.2.2.2.1 _ hl) (fun _ h => h) (v := .ref (ad k2)) (by rw [List.getElem?_mapIdx, hf]; rfl) d (kk p e s m args below meth c H ls locs A E hP hD hS hM hL (RS_cons trivial (RS_tl hR)))
theorem G.getINN {ci N k index : Nat} {C host : String} {T : u_T} {ty : Nat → FieldType} {fs : List (Option Nat)} (ck : CK ci C T N ty) (hs : sh[k]? = some (.inl (ci, fs))) (j : Nat) (hf : fs[j]? = some none) (hj : j < N) (hl : Cond.fieldLinkNest Y.1.cls index (T j).1 (T j).2.1 (T j).2.2.1 host ∈ WS) (d : decode Y.2.1 pc = .ok (.getfield index, 3))
    (kk : G sh l D ad ca Y (pc + 3) L (.inl (μ k j) :: st) μ r μ') : G sh l D ad ca Y pc L (.inr k :: st) μ r μ' :=
  fun p e s m args below meth c H ls locs A E hP hD hS hM hL hR => va_getN (D := D) E.1 E.2.1 (Ts := WS) E.2.2.2.2.1 ck.2.1 E.2.2.2.1 E.2.2.2.2.2.2.2.1 hP k (wd_get hs) ck.1 j hj (E.2.2.2.2.1 _ hl) (fun _ h => h) (v := .int (Int32.ofInt (μ k j))) (by rw [List.getElem?_mapIdx, hf]; rfl) d (kk p e s m args below meth c H ls locs A E hP hD hS hM hL (RS_cons (hM k j) (RS_tl hR)))
theorem G.iald {k n : Nat} {i : Int} (hs : sh[k]? = some (.inr (.inl (0, n)))) (h : 0 ≤ i ∧ i < n) (d : decode Y.2.1 pc = .ok (.iaload, 1))
    (kk : G sh l D ad ca Y (pc + 1) L (.inl (μ k i.toNat) :: st) μ r μ') : G sh l D ad ca Y pc L (.inl i :: .inr k :: st) μ r μ' :=
  fun p e s m args below meth c H ls locs A E hP hD hS hM hL hR => va_iald E.1 E.2.1 E.2.2.2.2.2.2.2.1 hP k 0 (wd_get hs) rfl (vin_of (RS_hd hR) h.1 h.2) d (by rw [oi_clamp (RS_hd hR)]; exact kk p e s m args below meth c H ls locs A E hP hD hS hM hL (RS_cons (hM k _) (RS_tl (RS_tl hR))))
theorem G.bald {k n : Nat} {i : Int} (hs : sh[k]? = some (.inr (.inl (1, n)))) (h : 0 ≤ i ∧ i < n) (d : decode Y.2.1 pc = .ok (.baload, 1))
    (kk : G sh l D ad ca Y (pc + 1) L (.inl (μ k i.toNat) :: st) μ r μ') : G sh l D ad ca Y pc L (.inl i :: .inr k :: st) μ r μ' :=
  fun p e s m args below meth c H ls locs A E hP hD hS hM hL hR => va_bald E.1 E.2.1 E.2.2.2.2.2.2.2.1 hP k 1 (wd_get hs) rfl (vin_of (RS_hd hR) h.1 h.2) d (by rw [oi_clamp (RS_hd hR)]; exact kk p e s m args below meth c H ls locs A E hP hD hS hM hL (RS_cons (hM k _) (RS_tl (RS_tl hR))))
theorem G.sald {k n : Nat} {i : Int} (hs : sh[k]? = some (.inr (.inl (2, n)))) (h : 0 ≤ i ∧ i < n) (d : decode Y.2.1 pc = .ok (.saload, 1))
    (kk : G sh l D ad ca Y (pc + 1) L (.inl (μ k i.toNat) :: st) μ r μ') : G sh l D ad ca Y pc L (.inl i :: .inr k :: st) μ r μ' :=
  fun p e s m args below meth c H ls locs A E hP hD hS hM hL hR => va_sald E.1 E.2.1 E.2.2.2.2.2.2.2.1 hP k 2 (wd_get hs) rfl (vin_of (RS_hd hR) h.1 h.2) d (by rw [oi_clamp (RS_hd hR)]; exact kk p e s m args below meth c H ls locs A E hP hD hS hM hL (RS_cons (hM k _) (RS_tl (RS_tl hR))))
theorem G.cald {k n : Nat} {i : Int} (hs : sh[k]? = some (.inr (.inl (3, n)))) (h : 0 ≤ i ∧ i < n) (d : decode Y.2.1 pc = .ok (.caload, 1))
    (kk : G sh l D ad ca Y (pc + 1) L (.inl (μ k i.toNat) :: st) μ r μ') : G sh l D ad ca Y pc L (.inl i :: .inr k :: st) μ r μ' :=
  fun p e s m args below meth c H ls locs A E hP hD hS hM hL hR => va_cald E.1 E.2.1 E.2.2.2.2.2.2.2.1 hP k 3 (wd_get hs) rfl (vin_of (RS_hd hR) h.1 h.2) d (by rw [oi_clamp (RS_hd hR)]; exact kk p e s m args below meth c H ls locs A E hP hD hS hM hL (RS_cons (hM k _) (RS_tl (RS_tl hR))))
theorem G.zald {k n : Nat} {i : Int} (hs : sh[k]? = some (.inr (.inl (4, n)))) (h : 0 ≤ i ∧ i < n) (d : decode Y.2.1 pc = .ok (.baload, 1))
    (kk : G sh l D ad ca Y (pc + 1) L (.inl (μ k i.toNat) :: st) μ r μ') : G sh l D ad ca Y pc L (.inl i :: .inr k :: st) μ r μ' :=
  fun p e s m args below meth c H ls locs A E hP hD hS hM hL hR => va_zald E.1 E.2.1 E.2.2.2.2.2.2.2.1 hP k 4 (wd_get hs) rfl (vin_of (RS_hd hR) h.1 h.2) d (by rw [oi_clamp (RS_hd hR)]; exact kk p e s m args below meth c H ls locs A E hP hD hS hM hL (RS_cons (hM k _) (RS_tl (RS_tl hR))))
theorem G.iast {k n : Nat} {i x : Int} (hs : sh[k]? = some (.inr (.inl (0, n)))) (h : 0 ≤ i ∧ i < n) (d : decode Y.2.1 pc = .ok (.iastore, 1))
    (kk : G sh l D ad ca Y (pc + 1) L st (mst μ k i.toNat x) r μ') : G sh l D ad ca Y pc L (.inl x :: .inl i :: .inr k :: st) μ r μ' :=
  fun p e s m args below meth c H ls locs A E hP hD hS hM hL hR => va_iast E.1 E.2.1 E.2.2.2.2.2.2.2.1 hP hD hS k 0 (wd_get hs) rfl (vin_of (RS_hd (RS_tl hR)) h.1 h.2) d
    (fun H1 locs1 hP1 hD1 hS1 => by
      rw [oi_clamp (RS_hd (RS_tl hR))] at hP1 hD1
      have e1 := wd_arr (ad := ad) (ca := ca) (μ := μ) (i := i.toNat) (x := x) hs rfl
      replace hP1 := e1 ▸ hP1
      replace hD1 := e1 ▸ hD1
      exact kk p e s m args below meth c H1 ls locs1 A E hP1 hD1 hS1 (RM_mst hM k _ (RS_hd hR)) hL (RS_tl (RS_tl (RS_tl hR))))
theorem nar8 (x : Int) : vp_nar .byte (Int32.ofInt x) = Int32.ofInt (n8 x) := by rw [vp_nar_byte, n8, Int32.ofInt_toInt]
theorem nar16 (x : Int) : vp_nar .short (Int32.ofInt x) = Int32.ofInt (n16 x) := by rw [vp_nar_short, n16, Int32.ofInt_toInt]
theorem narz (x : Int) : vp_nar .boolean (Int32.ofInt x) = Int32.ofInt (nzz x) := by rw [nzz, Int32.ofInt_toInt]; rfl
def ncc (x : Int) : Int := (Int32.ofInt x).toUInt32.toUInt16.toUInt32.toInt32.toInt
theorem narc (x : Int) : vp_nar .char (Int32.ofInt x) = Int32.ofInt (ncc x) := by rw [vp_nar_char, ncc, Int32.ofInt_toInt]
theorem G.bast {k n : Nat} {i x : Int} (hs : sh[k]? = some (.inr (.inl (1, n)))) (h : 0 ≤ i ∧ i < n) (d : decode Y.2.1 pc = .ok (.bastore, 1))
    (kk : G sh l D ad ca Y (pc + 1) L st (mst μ k i.toNat (n8 x)) r μ') : G sh l D ad ca Y pc L (.inl x :: .inl i :: .inr k :: st) μ r μ' :=
  fun p e s m args below meth c H ls locs A E hP hD hS hM hL hR => va_bast E.1 E.2.1 E.2.2.2.2.2.2.2.1 hP hD hS k 1 (wd_get hs) rfl (vin_of (RS_hd (RS_tl hR)) h.1 h.2) d
    (fun H1 locs1 hP1 hD1 hS1 => by
      rw [oi_clamp (RS_hd (RS_tl hR))] at hP1 hD1
      have e1 := wd_arr (ad := ad) (ca := ca) (μ := μ) (i := i.toNat) (x := n8 x) hs (nar8 x)
      replace hP1 := e1 ▸ hP1
      replace hD1 := e1 ▸ hD1
      exact kk p e s m args below meth c H1 ls locs1 A E hP1 hD1 hS1 (RM_mst hM k _ (to_in _)) hL (RS_tl (RS_tl (RS_tl hR))))
theorem G.sast {k n : Nat} {i x : Int} (hs : sh[k]? = some (.inr (.inl (2, n)))) (h : 0 ≤ i ∧ i < n) (d : decode Y.2.1 pc = .ok (.sastore, 1))
    (kk : G sh l D ad ca Y (pc + 1) L st (mst μ k i.toNat (n16 x)) r μ') : G sh l D ad ca Y pc L (.inl x :: .inl i :: .inr k :: st) μ r μ' :=
  fun p e s m args below meth c H ls locs A E hP hD hS hM hL hR => va_sast E.1 E.2.1 E.2.2.2.2.2.2.2.1 hP hD hS k 2 (wd_get hs) rfl (vin_of (RS_hd (RS_tl hR)) h.1 h.2) d
    (fun H1 locs1 hP1 hD1 hS1 => by
      rw [oi_clamp (RS_hd (RS_tl hR))] at hP1 hD1
      have e1 := wd_arr (ad := ad) (ca := ca) (μ := μ) (i := i.toNat) (x := n16 x) hs (nar16 x)
      replace hP1 := e1 ▸ hP1
      replace hD1 := e1 ▸ hD1
      exact kk p e s m args below meth c H1 ls locs1 A E hP1 hD1 hS1 (RM_mst hM k _ (to_in _)) hL (RS_tl (RS_tl (RS_tl hR))))
theorem G.cast {k n : Nat} {i x : Int} (hs : sh[k]? = some (.inr (.inl (3, n)))) (h : 0 ≤ i ∧ i < n) (d : decode Y.2.1 pc = .ok (.castore, 1))
    (kk : G sh l D ad ca Y (pc + 1) L st (mst μ k i.toNat (ncc x)) r μ') : G sh l D ad ca Y pc L (.inl x :: .inl i :: .inr k :: st) μ r μ' :=
  fun p e s m args below meth c H ls locs A E hP hD hS hM hL hR => va_cast E.1 E.2.1 E.2.2.2.2.2.2.2.1 hP hD hS k 3 (wd_get hs) rfl (vin_of (RS_hd (RS_tl hR)) h.1 h.2) d
    (fun H1 locs1 hP1 hD1 hS1 => by
      rw [oi_clamp (RS_hd (RS_tl hR))] at hP1 hD1
      have e1 := wd_arr (ad := ad) (ca := ca) (μ := μ) (i := i.toNat) (x := ncc x) hs (narc x)
      replace hP1 := e1 ▸ hP1
      replace hD1 := e1 ▸ hD1
      exact kk p e s m args below meth c H1 ls locs1 A E hP1 hD1 hS1 (RM_mst hM k _ (to_in _)) hL (RS_tl (RS_tl (RS_tl hR))))
theorem G.zast {k n : Nat} {i x : Int} (hs : sh[k]? = some (.inr (.inl (4, n)))) (h : 0 ≤ i ∧ i < n) (d : decode Y.2.1 pc = .ok (.bastore, 1))
    (kk : G sh l D ad ca Y (pc + 1) L st (mst μ k i.toNat (nzz x)) r μ') : G sh l D ad ca Y pc L (.inl x :: .inl i :: .inr k :: st) μ r μ' :=
  fun p e s m args below meth c H ls locs A E hP hD hS hM hL hR => va_zast E.1 E.2.1 E.2.2.2.2.2.2.2.1 hP hD hS k 4 (wd_get hs) rfl (vin_of (RS_hd (RS_tl hR)) h.1 h.2) d
    (fun H1 locs1 hP1 hD1 hS1 => by
      rw [oi_clamp (RS_hd (RS_tl hR))] at hP1 hD1
      have e1 := wd_arr (ad := ad) (ca := ca) (μ := μ) (i := i.toNat) (x := nzz x) hs (narz x)
      replace hP1 := e1 ▸ hP1
      replace hD1 := e1 ▸ hD1
      exact kk p e s m args below meth c H1 ls locs1 A E hP1 hD1 hS1 (RM_mst hM k _ (to_in _)) hL (RS_tl (RS_tl (RS_tl hR))))
theorem G.aald {k : Nat} {i : Int} {rs : List Nat} (hs : sh[k]? = some (.inr (.inr rs))) (h : 0 ≤ i ∧ i < rs.length) (d : decode Y.2.1 pc = .ok (.aaload, 1))
    (kk : G sh l D ad ca Y (pc + 1) L (.inr (rs.getD i.toNat 0) :: st) μ r μ') : G sh l D ad ca Y pc L (.inl i :: .inr k :: st) μ r μ' :=
  fun p e s m args below meth c H ls locs A E hP hD hS hM hL hR => va_aldq E.1 E.2.1 E.2.2.2.2.2.2.2.1 hP k 5 (wd_get hs) rfl (vin_of (RS_hd hR) h.1 h.2) d (by
    have h2 := kk p e s m args below meth c H ls locs A E hP hD hS hM hL (RS_cons trivial (RS_tl (RS_tl hR)))
    rw [oi_clamp (RS_hd hR)]
    exact h2)
/-- the static table of powers -/
theorem G.pow {index : Nat} (d : decode Y.2.1 pc = .ok (.getstatic index, 3)) (hl : Cond.fieldLink Y.1.cls index "SpiceThrees" "POWERS" "[I" ∈ WS) (k : G sh l D ad ca Y (pc + 3) L (.inr 1000 :: st) μ r μ') : G sh l D ad ca Y pc L st μ r μ' :=
  fun p e s m args below meth c H ls locs A E hP hD hS hM hL hR => va_gets E.1 E.2.1 E.2.2.2.2.2.2.2.2.1.1 hS E.2.2.2.1 (E.2.2.2.2.1 _ hl) (fun _ h => h) d (k p e s m args below meth c H ls locs A E hP hD hS hM hL (RS_cons trivial hR))
theorem G.powN {index : Nat} {host : String} (d : decode Y.2.1 pc = .ok (.getstatic index, 3)) (hl : Cond.fieldLinkNest Y.1.cls index "SpiceThrees" "POWERS" "[I" host ∈ WS) (k : G sh l D ad ca Y (pc + 3) L (.inr 1000 :: st) μ r μ') : G sh l D ad ca Y pc L st μ r μ' :=
  fun p e s m args below meth c H ls locs A E hP hD hS hM hL hR => va_getsN E.1 E.2.1 E.2.2.2.2.2.2.2.2.1.1 hS E.2.2.2.1 (E.2.2.2.2.1 _ hl) (fun _ h => h) d (k p e s m args below meth c H ls locs A E hP hD hS hM hL (RS_cons trivial hR))
theorem pow3_in (j : Nat) : inR (pow3 j) := by
  unfold pow3
  split <;> decide
theorem G.powld {i : Int} (h : 0 ≤ i ∧ i < 9) (d : decode Y.2.1 pc = .ok (.iaload, 1)) (k : G sh l D ad ca Y (pc + 1) L (.inl (pow3 i.toNat) :: st) μ r μ') : G sh l D ad ca Y pc L (.inl i :: .inr 1000 :: st) μ r μ' :=
  fun p e s m args below meth c H ls locs A E hP hD hS hM hL hR => va_ti E.1 E.2.1 E.2.2.2.2.2.2.2.2.1.2.1 hS (vin_of (RS_hd hR) h.1 h.2) (v := .int (Int32.ofInt (pow3 i.toNat))) (by show Value.int (Int32.ofInt (pow3 (Int32.ofInt i).toNatClampNeg)) = _; rw [oi_clamp (RS_hd hR)]) d (k p e s m args below meth c H ls locs A E hP hD hS hM hL (RS_cons (pow3_in _) (RS_tl (RS_tl hR))))
theorem G.ldcS (i index : Nat) (hi : i < 7) (he : 78 + 2 * i = index) (hown : Y.1.cls = "SpiceThrees$Text") (d : decode Y.2.1 pc = .ok (.ldc index, 2)) (k : G sh l D ad ca Y (pc + 2) L (.inr (1001 + i) :: st) μ r μ') : G sh l D ad ca Y pc L st μ r μ' :=
  fun p e s m args below meth c H ls locs A E hP hD hS hM hL hR => va_ldcS E.1 E.2.1 (own := "SpiceThrees$Text") (by rw [← hown]; exact E.2.2.2.1) (by rw [← he]; exact E.2.2.2.2.2.2.2.2.1.2.2.2.1 i hi) d (k p e s m args below meth c H ls locs A E hP hD hS hM hL (RS_cons trivial hR))
/-- System.arraycopy over rows of ints -/
def mcp (μ : Mem) (k0 k1 s d n : Nat) : Mem := fun a b => if a = k1 ∧ d ≤ b ∧ b < d + n then μ k0 (s + (b - d)) else μ a b
theorem RM_mcp {μ : Mem} (h : RM μ) (k0 k1 s d n : Nat) : RM (mcp μ k0 k1 s d n) := fun a b => by
  unfold mcp
  split
  · exact h _ _
  · exact h _ _
theorem wd_cp {k0 k1 n0 n1 s d n : Nat} (h1 : sh[k1]? = some (.inr (.inl (0, n1)))) : (wd sh ad ca μ).set k1 (ad k1, .inl (ca 0, n1, .inl (va_cpy (fun j => Int32.ofInt (μ k0 j)) (fun j => Int32.ofInt (μ k1 j)) s d n))) = wd sh ad ca (mcp μ k0 k1 s d n) := by
  refine wd_ext h1 ?_ (fun a ha => by funext b; simp [mcp, ha])
  show _ = Sum.inl (ca 0, n1, Sum.inl _)
  congr 4
  funext j
  simp only [va_cpy, mcp]
  by_cases hj : d ≤ j ∧ j < d + n
  · simp [hj]
  · rw [if_neg hj, if_neg (fun z => hj z.2)]
theorem G.copy {index k0 k1 n0 n1 : Nat} {sp dp n : Int} (w1 : Cond.methodLink Y.1.cls index arraycopyName ∈ WS) (w2 : Cond.native arraycopyName ∈ WS) (w3 : Cond.static arraycopyName ∈ WS) (w4 : Cond.initialized "java/lang/System" ∈ WS) (hs0 : sh[k0]? = some (.inr (.inl (0, n0)))) (hs1 : sh[k1]? = some (.inr (.inl (0, n1))))
    (h1 : 0 ≤ sp) (h2 : 0 ≤ dp) (h3 : 0 ≤ n) (h4 : sp + n ≤ n0) (h5 : dp + n ≤ n1) (hfr : 1 ≤ Y.2.2.2.2.1) (hlo : st.length + (nativeFrameWords "java/lang/System" "arraycopy" 5 + 11) ≤ Y.2.2.2.2.2) (d : decode Y.2.1 pc = .ok (.invokestatic index, 3))
    (kk : G sh l D ad ca Y (pc + 3) L st (mcp μ k0 k1 sp.toNat dp.toNat n.toNat) r μ') : G sh l D ad ca Y pc L (.inl n :: .inl dp :: .inr k1 :: .inl sp :: .inr k0 :: st) μ r μ' :=
  fun p e s m args below meth c H ls locs A E hP hD hS hM hL hR => by
    have rn := RS_hd hR
    have rd := RS_hd (RS_tl hR)
    have rs := RS_hd (RS_tl (RS_tl (RS_tl hR)))
    have z0 : inR 0 := by decide
    refine va_copyi E.1 E.2.1 (E.2.2.1.trans hL.2.1.1.symm) E.2.2.2.1 (E.2.2.2.2.1 _ w1) (E.2.2.2.2.1 _ w2) (E.2.2.2.2.1 _ w3) (E.2.2.2.2.1 _ w4) E.2.2.2.2.2.2.2.1 hP hD hS k0 k1 0 0 (wd_get hs0) (wd_get hs1) rfl rfl rfl (sp := Int32.ofInt sp) (dp := Int32.ofInt dp) (n := Int32.ofInt n)
      (fun h => by have h' : Int32.ofInt sp < Int32.ofInt 0 := h; rw [oi_lt rs z0] at h'; omega)
      (fun h => by have h' : Int32.ofInt dp < Int32.ofInt 0 := h; rw [oi_lt rd z0] at h'; omega)
      (fun h => by have h' : Int32.ofInt n < Int32.ofInt 0 := h; rw [oi_lt rn z0] at h'; omega)
      (by rw [oi_clamp rs, oi_clamp rn]; omega) (by rw [oi_clamp rd, oi_clamp rn]; omega) (fun i hi => rfl) hfr (by rw [cat_sum]; exact hlo) d (fun H1 locs1 hP1 hD1 hS1 => ?_)
    rw [oi_clamp rs, oi_clamp rd, oi_clamp rn] at hP1 hD1
    have e1 := wd_cp (sh := sh) (ad := ad) (ca := ca) (μ := μ) (k0 := k0) (n0 := n0) (s := sp.toNat) (d := dp.toNat) (n := n.toNat) hs1
    replace hP1 := e1 ▸ hP1
    replace hD1 := e1 ▸ hD1
    exact kk p e s m args below meth c H1 ls locs1 A E hP1 hD1 hS1 (RM_mcp hM _ _ _ _ _) hL (RS_tl (RS_tl (RS_tl (RS_tl (RS_tl hR)))))
end G2
end
section
theorem gin_ws {l : List Cond} (h : ∀ w ∈ l, w ∈ WS) : GoodIn WS l := fun w hw => ⟨h w hw, good_of_word (List.mem_filter.mp (h w hw)).2⟩
theorem ws_sub {Y : MR} (wc : Cond.code Y.1 Y.2.1 Y.2.2.1 Y.2.2.2.1 ∈ WS) : ∀ w ∈ wsY Y, w ∈ WS := fun w hw => by
  rcases List.mem_cons.mp hw with rfl | hw
  · exact wc
  · exact hw
/-- what a call site shows of the callee: its words, its number of arguments, its room -/
def CS (Y Y' : MR) (n : Nat) : Prop := Cond.initialized Y'.1.cls ∈ WS ∧ Cond.code Y'.1 Y'.2.1 Y'.2.2.1 Y'.2.2.2.1 ∈ WS ∧ (Y'.1.cls ≠ "java/lang/invoke/MethodHandle" ∧ Y'.1.cls ≠ "java/lang/invoke/VarHandle" ∧ (parseMethodDescriptor Y'.1.desc).map (fun d => d.parameters.length) = some n) ∧ (Y'.2.2.2.2.1 + 1 ≤ Y.2.2.2.2.1 ∧ 8 + (Y'.2.2.1 + 11) + Y'.2.2.2.2.2 ≤ Y.2.2.2.2.2)
section CC
variable {sh : List Descr} {l : Launch} {D : va_G} {ad : Nat → Nat} {ca : Nat → ClassId} {Y Y' : MR} {pc index : Nat} {L : List (Option PV)} {st0 rest : List PV} {as : List PV} {μ μ1 μ' : Mem} {r r1 : Option PV}
theorem va_A_wd {sh : List Descr} {ad : Nat → Nat} {ca : Nat → ClassId} {μ : Mem} {A : Nat → Prop} {s : State} {H : Heap} {locs : List Loc} (hD : va_D A (wd sh ad ca μ)) (hS : va_S A s.heap H locs) (hA : ∀ q : Nat, s.heap.size ≤ q → A q) : ∀ q, va_A (wd sh ad ca μ) H.size q → A q := by
  intro q h
  rcases h with ⟨k, e, h⟩ | h
  · exact hD.2 k _ h
  · exact hA q (Nat.le_trans hS.1 h)
theorem va_D_mem {sh : List Descr} {ad : Nat → Nat} {ca : Nat → ClassId} {μ μ1 : Mem} {A B : Nat → Prop} (hD : va_D A (wd sh ad ca μ1)) (hAB : ∀ q, A q → B q) : va_D B (wd sh ad ca μ1) := hD.weaken (fun _ _ _ h => hAB _ h)
theorem pcc_of {A : Nat → Prop} {s U : State} {H : Heap} {locs : List Loc} (hU : U.heap = H) (hW : s.WarmedH U.vm) (hP : va_P D vwCl (wd sh ad ca μ) H) (hK : va_K D vwCl (tysC ca) s) (hD : va_D A (wd sh ad ca μ)) (hS : va_S A s.heap H locs) (hSF : SF ad A s s.heap) (hA : ∀ q : Nat, s.heap.size ≤ q → A q) (hM : RM μ) (hR : RS as) : Pcc sh D ad ca as μ H.size (as.map (cv ad)).toArray U := by
  subst hU
  exact ⟨rfl, rfl, hP, va_K.moved hW.alike hK, va_D_mem (μ := μ) hD (fun _ _ => trivial), hSF.move hS hW (va_A_wd hD hS hA), hM, hR⟩
/-- behind a call, by what it answers -/
theorem G.back {p : Program} {e : Env} {s : State} {m : MethodId} {args : Array Value} {below : List Frame} {meth : Method} {c : Code} {H : Heap} {ls : Array Slot} {locs : List Loc} {A : Nat → Prop} {a : Array Value}
    (E : Ent ad D ca Y p s m args meth c A) (hP : va_P D vwCl (wd sh ad ca μ) H) (hD : va_D A (wd sh ad ca μ)) (hS : va_S A s.heap H locs) (hL : Lv ad Y.2.2.1 L ls) (hR : RS rest)
    (hr : va_Run p l e (rmY Y) s m args below meth c H locs 0 0 0 0 (F0 m pc ls (st0.map (cv ad))) (rest.map (cv ad)) (QQ sh D ad ca r1 μ1 (va_A (wd sh ad ca μ) H.size) a) (va_A (wd sh ad ca μ) H.size))
    (kk : G sh l D ad ca Y (pc + 3) L (r1.toList ++ rest) μ1 r μ') : W p l e (rmY Y) s m args below meth c H locs 0 0 (MQ below (QQ sh D ad ca r μ' A) args s 0 0 A) (F0 m pc ls (st0.map (cv ad))) := by
  have hAA := va_A_wd (ca := ca) (μ := μ) hD hS E.2.2.2.2.2.2.2.2.2
  match r1, hr, kk with
  | none, hr, kk =>
    refine va_callv (a := a) hr hS (fun q _ h => hAA q h) hAA (fun u t H1 locs1 ht hvm _ hB _ _ hS1 => ?_)
    subst ht
    exact kk p e s m args below meth c t.heap ls locs1 A E hB.1 (va_D_mem (μ := μ) hB.2.2.1 hAA) hS1 hB.2.2.2 hL hR
  | some (.inl x), hr, kk =>
    refine va_calli (a := a) hr hS (fun q _ h => hAA q h) hAA (fun v u t H1 locs1 ht hvm hp hB _ _ hS1 => ?_)
    subst ht
    obtain ⟨rfl, hx⟩ := hp
    exact kk p e s m args below meth c t.heap ls locs1 A E hB.1 (va_D_mem (μ := μ) hB.2.2.1 hAA) hS1 hB.2.2.2 hL (RS_cons hx hR)
  | some (.inr k), hr, kk =>
    refine va_callr (a := a) hr hS (fun q _ h => hAA q h) hAA (fun u ra t H1 locs1 ht hvm _ hB _ _ hS1 => ?_)
    subst ht
    obtain ⟨rfl, hB⟩ := hB
    exact kk p e s m args below meth c t.heap ls locs1 A E hB.1 (va_D_mem (μ := μ) hB.2.2.1 hAA) hS1 hB.2.2.2 hL (RS_cons trivial hR)
theorem RS_rev {a b : List PV} (h : RS (a.reverse ++ b)) : RS a := fun v hv => h v (List.mem_append_left _ (List.mem_reverse.mpr hv))
theorem RS_app {a b : List PV} (h : RS (a ++ b)) : RS b := fun v hv => h v (List.mem_append_right _ hv)
theorem G.callS (hM : GM sh l D ad ca Y' as μ r1 μ1) (cs : CS Y Y' as.length) (hst : st0 = as.reverse ++ rest) (hlen : rest.length ≤ 8) (wl : Cond.methodLink Y.1.cls index Y'.1 ∈ WS) (wst : Cond.static Y'.1 ∈ WS) (d : decode Y.2.1 pc = .ok (.invokestatic index, 3))
    (kk : G sh l D ad ca Y (pc + 3) L (r1.toList ++ rest) μ1 r μ') : G sh l D ad ca Y pc L st0 μ r μ' :=
  fun p e s m args below meth c H ls locs A E hP hD hS hMm hL hR => by
    obtain ⟨w1, w2, w3, w4⟩ := cs
    refine G.back (a := (as.map (cv ad)).toArray) E hP hD hS hL (RS_app (hst ▸ hR)) ?_ kk
    refine va_runS (Ts := WS) (As := as.map (cv ad)) (rest := rest.map (cv ad)) (n := as.length) (own := Y.1.cls) (index := index) (nL := Y.2.2.1) ⟨E.1, E.2.1, E.2.2.1, E.2.2.2.1, E.2.2.2.2.1⟩ (hM H.size)
      (va_cwS as.length E.2.2.2.2.1 (gin_ws (fun w hw => ?_)) rfl rfl rfl w3 w4) ⟨Pcc_blind _ _ _ _ _ _ _, fun U hU hW => pcc_of hU hW hP E.2.2.2.2.2.2.2.1 hD hS E.2.2.2.2.2.2.2.2.1 E.2.2.2.2.2.2.2.2.2 hMm (RS_rev (hst ▸ hR))⟩ rfl (by simp) hL.2.1.1 (by rw [hst, List.map_append, List.map_reverse]) (lv_room (by rw [cat_sum]; exact hlen)) d ⟨Nat.le_refl _, Nat.le_refl _⟩
    unfold va_wsS at hw
    rcases List.mem_append.mp hw with h | h
    · simp only [List.mem_cons, List.not_mem_nil, or_false] at h
      rcases h with rfl | rfl | rfl
      · exact wl
      · exact wst
      · exact w1
    · exact ws_sub w2 w h
theorem G.callSN {host : String} (hM : GM sh l D ad ca Y' as μ r1 μ1) (cs : CS Y Y' as.length) (hst : st0 = as.reverse ++ rest) (hlen : rest.length ≤ 8) (wl : Cond.methodLinkNest Y.1.cls index Y'.1 host ∈ WS) (wst : Cond.static Y'.1 ∈ WS) (d : decode Y.2.1 pc = .ok (.invokestatic index, 3))
    (kk : G sh l D ad ca Y (pc + 3) L (r1.toList ++ rest) μ1 r μ') : G sh l D ad ca Y pc L st0 μ r μ' :=
  fun p e s m args below meth c H ls locs A E hP hD hS hMm hL hR => by
    obtain ⟨w1, w2, w3, w4⟩ := cs
    refine G.back (a := (as.map (cv ad)).toArray) E hP hD hS hL (RS_app (hst ▸ hR)) ?_ kk
    refine va_runSN (Ts := WS) (As := as.map (cv ad)) (rest := rest.map (cv ad)) (n := as.length) (own := Y.1.cls) (index := index) (nL := Y.2.2.1) ⟨E.1, E.2.1, E.2.2.1, E.2.2.2.1, E.2.2.2.2.1⟩ (hM H.size)
      ⟨va_cnB as.length E.2.2.2.2.1 (gin_ws (ws_sub w2)) rfl rfl rfl (va_Nw.use rfl (E.2.2.2.2.1 _ wl)) (E.2.2.2.2.1 _ w1) w3 w4, E.2.2.2.2.1 _ wst, trivial⟩ ⟨Pcc_blind _ _ _ _ _ _ _, fun U hU hW => pcc_of hU hW hP E.2.2.2.2.2.2.2.1 hD hS E.2.2.2.2.2.2.2.2.1 E.2.2.2.2.2.2.2.2.2 hMm (RS_rev (hst ▸ hR))⟩ rfl (by simp) hL.2.1.1 (by rw [hst, List.map_append, List.map_reverse]) (lv_room (by rw [cat_sum]; exact hlen)) d ⟨Nat.le_refl _, Nat.le_refl _⟩
theorem G.callV {b ci N : Nat} {C : String} {T : u_T} {ty : Nat → FieldType} {fs : List (Option Nat)} (hM : GM sh l D ad ca Y' (.inr b :: as) μ r1 μ1) (cs : CS Y Y' as.length) (ck : CK ci C T N ty) (hs : sh[b]? = some (.inl (ci, fs))) (hC : Y'.1.cls = C) (hst : st0 = as.reverse ++ .inr b :: rest) (hlen : rest.length ≤ 8) (wl : Cond.methodLink Y.1.cls index Y'.1 ∈ WS) (wi : Cond.instanceMethod Y'.1 ∈ WS) (wse : Cond.selects Y'.1.cls Y'.1 Y'.1 ∈ WS) (d : decode Y.2.1 pc = .ok (.invokevirtual index, 3))
    (kk : G sh l D ad ca Y (pc + 3) L (r1.toList ++ rest) μ1 r μ') : G sh l D ad ca Y pc L st0 μ r μ' :=
  fun p e s m args below meth c H ls locs A E hP hD hS hMm hL hR => by
    obtain ⟨w1, w2, w3, w4⟩ := cs
    subst hC
    refine G.back (a := (Value.ref (ad b) :: as.map (cv ad)).toArray) E hP hD hS hL (RS_tl (RS_app (hst ▸ hR))) ?_ kk
    refine va_runV (Ts := WS) (C := Y'.1.cls) (b := ad b) (As := as.map (cv ad)) (rest := rest.map (cv ad)) (n := as.length) (own := Y.1.cls) (index := index) (nL := Y.2.2.1) ⟨E.1, E.2.1, E.2.2.1, E.2.2.2.1, E.2.2.2.2.1⟩ (hM H.size)
      (cwV as.length E.2.2.2.2.1 (gin_ws (fun w hw => ?_)) rfl rfl rfl ⟨rfl, w3⟩ w4) ⟨Pcc_blind _ _ _ _ _ _ _, va_recv E.2.2.2.2.2.2.2.1 hP ck.1 (wd_get hs), fun U hU hW => pcc_of (as := .inr b :: as) hU hW hP E.2.2.2.2.2.2.2.1 hD hS E.2.2.2.2.2.2.2.2.1 E.2.2.2.2.2.2.2.2.2 hMm (RS_cons trivial (RS_rev (hst ▸ hR)))⟩ rfl (by simp) hL.2.1.1 (by rw [hst, List.map_append, List.map_reverse]; rfl) (lv_room (by rw [cat_sum]; exact hlen)) d ⟨Nat.le_refl _, Nat.le_refl _⟩
    unfold wsV at hw
    rcases List.mem_append.mp hw with h | h
    · simp only [List.mem_cons, List.not_mem_nil, or_false] at h
      rcases h with rfl | rfl | rfl | rfl
      · exact wl
      · exact wi
      · exact wse
      · exact w1
    · exact ws_sub w2 w h
end CC
end
section
/-! the two worlds: the reference's (its object at 0), the class's (its object at 0) -/
def shM : List Descr := [.inl (8, [some 1, some 2, some 3, none, some 4, none, some 5, none, none, none, some 6, some 7, some 8, some 9, none, none, none, none, some 10]),
  .inr (.inl (0, 60)), .inr (.inl (0, 60)), .inr (.inl (0, 240)), .inr (.inl (0, 60)), .inr (.inl (0, 60)), .inr (.inl (4, 6561)), .inr (.inl (0, 6561)), .inr (.inl (0, 6561)), .inr (.inl (4, 6561)), .inr (.inl (0, 4096))]
def shopD (b : Nat) : List Descr := [.inl (4, [some (b + 1), some (b + 2), none, none, some (b + 3), none, some (b + 4), some (b + 5), none, some (b + 6)]),
  .inr (.inl (0, 12)), .inr (.inl (0, 12)), .inr (.inl (0, 8)), .inr (.inl (0, 8)), .inr (.inl (0, 8)), .inr (.inl (0, 8))]
def shX : List Descr := [.inl (7, [some 1, some 3, some 10, some 17, none, some 24, some 61, some 63, some 66]),
  .inl (3, [some 2]), .inr (.inl (1, 6561)),
  .inl (5, [some 1, some 4, none, none, some 5, some 6, some 7, none, some 8, some 9]), .inr (.inl (0, 8)), .inr (.inl (0, 8)), .inr (.inl (0, 8)), .inr (.inl (2, 6561)), .inr (.inl (0, 81)), .inr (.inl (0, 81))] ++
  shopD 10 ++ shopD 17 ++ [.inl (2, [some 25, none, none]), .inr (.inr [26, 33, 40, 47, 54])] ++ shopD 26 ++ shopD 33 ++ shopD 40 ++ shopD 47 ++ shopD 54 ++
  [.inl (0, [some 10, some 1, some 3, some 62]), .inr (.inl (0, 8)),
  .inl (6, [some 64, none, none, none, some 65, none, none]), .inr (.inl (3, 60)), .inr (.inl (0, 8)),
  .inl (1, [some 1, some 67, none, some 68]), .inr (.inl (2, 4096)), .inr (.inl (0, 206))]
theorem u_good {C : String} {T : u_T} {N : Nat} (h : ∀ w ∈ u_ws C T N, w ∈ lw_tbl) : ∀ w ∈ u_ws C T N, w ∈ WS := fun w hw => by
  refine List.mem_filter.mpr ⟨h w hw, ?_⟩
  unfold u_ws at hw
  obtain ⟨k, -, rfl⟩ := List.mem_map.mp hw
  unfold u_lay
  split <;> rfl
theorem ck0 : CK 0 RX0 TX0 4 tyX0 := ⟨rfl, u_good inX0, tyX0_ok, nmX0⟩
theorem ck1 : CK 1 RX1 TX1 4 tyX1 := ⟨rfl, u_good inX1, tyX1_ok, nmX1⟩
theorem ck2 : CK 2 RX2 TX2 3 tyX2 := ⟨rfl, u_good inX2, tyX2_ok, nmX2⟩
theorem ck3 : CK 3 RX3 TX3 1 tyX3 := ⟨rfl, u_good inX3, tyX3_ok, nmX3⟩
theorem ck4 : CK 4 RX4 TX4 10 tyX4 := ⟨rfl, u_good inX4, tyX4_ok, nmX4⟩
theorem ck5 : CK 5 RX5 TX5 10 tyX5 := ⟨rfl, u_good inX5, tyX5_ok, nmX5⟩
theorem ck6 : CK 6 RX6 TX6 7 tyX6 := ⟨rfl, u_good inX6, tyX6_ok, nmX6⟩
theorem ck7 : CK 7 RX7 TX7 9 tyX7 := ⟨rfl, u_good inX7, tyX7_ok, nmX7⟩
theorem ck8 : CK 8 RX8 TX8 19 tyX8 := ⟨rfl, u_good inX8, tyX8_ok, nmX8⟩
def FU : Nat := 100000
def bnd {α β : Type} (a : α) (f : α → β) : β := f a
def aget (μ : Mem) (k n : Nat) (i : Int) : Option Int := if 0 ≤ i ∧ i < (n : Int) then some (μ k i.toNat) else none
def aput (μ : Mem) (k n : Nat) (i x : Int) : Option Mem := if 0 ≤ i ∧ i < (n : Int) then some (mst μ k i.toNat x) else none
def pget (i : Int) : Option Int := if 0 ≤ i ∧ i < 9 then some (pow3 i.toNat) else none
def chk (b : Bool) : Option Unit := if b = true then some () else none
theorem aget_some {μ : Mem} {k n : Nat} {i v : Int} (h : aget μ k n i = some v) : (0 ≤ i ∧ i < (n : Int)) ∧ μ k i.toNat = v := by
  unfold aget at h
  split at h
  · exact ⟨by assumption, Option.some.inj h⟩
  · cases h
theorem aput_some {μ μ1 : Mem} {k n : Nat} {i x : Int} (h : aput μ k n i x = some μ1) : (0 ≤ i ∧ i < (n : Int)) ∧ mst μ k i.toNat x = μ1 := by
  unfold aput at h
  split at h
  · exact ⟨by assumption, Option.some.inj h⟩
  · cases h
theorem pget_some {i v : Int} (h : pget i = some v) : (0 ≤ i ∧ i < 9) ∧ pow3 i.toNat = v := by
  unfold pget at h
  split at h
  · exact ⟨by assumption, Option.some.inj h⟩
  · cases h
theorem chk_some {b : Bool} {u : Unit} (h : chk b = some u) : b = true := by
  unfold chk at h
  split at h
  · assumption
  · cases h
theorem bd {α β : Type} {x : Option α} {f : α → Option β} {b : β} (h : x.bind f = some b) : ∃ a, x = some a ∧ f a = some b := Option.bind_eq_some_iff.mp h
theorem nar_z {x : Int} (h : x = 0 ∨ x = 1) : narrow .boolean (.int (Int32.ofInt x)) = .int (Int32.ofInt x) := by
  rcases h with rfl | rfl <;> rfl
section GM1
variable {sh : List Descr} {l : Launch} {D : va_G} {ad : Nat → Nat} {ca : Nat → ClassId} {Y : MR} {pc : Nat} {L : List (Option PV)} {st : List PV} {μ μ' : Mem} {r : Option PV}
theorem G.min {index : Nat} {x y : Int} (w1 : Cond.methodLink Y.1.cls index Lib.Math.min.name ∈ WS) (w2 : Cond.static Lib.Math.min.name ∈ WS) (w3 : Cond.initialized "java/lang/Math" ∈ WS) (w4 : Cond.code Lib.Math.min.name Lib.Math.min.code 2 (some .int) ∈ WS) (hfr : 1 ≤ Y.2.2.2.2.1) (hlo : st.length + 13 ≤ Y.2.2.2.2.2) (d : decode Y.2.1 pc = .ok (.invokestatic index, 3))
    (kk : G sh l D ad ca Y (pc + 3) L (.inl (if y < x then y else x) :: st) μ r μ') : G sh l D ad ca Y pc L (.inl y :: .inl x :: st) μ r μ' :=
  fun p e s m args below meth c H ls locs A E hP hD hS hM hL hR => by
    refine va_mmin E.1 E.2.1 (E.2.2.1.trans hL.2.1.1.symm) E.2.2.2.1 (E.2.2.2.2.1 _ w1) (E.2.2.2.2.1 _ w2) (E.2.2.2.2.1 _ w3) (E.2.2.2.2.1 _ w4) hfr (by rw [cat_sum]; exact hlo) (Nat.zero_le _) (Nat.zero_le _) d ?_
    have hy := RS_hd hR
    have hx := RS_hd (RS_tl hR)
    by_cases h : y < x
    · rw [if_pos ((oi_lt hy hx).mpr h)]
      rw [if_pos h] at kk
      exact kk p e s m args below meth c H ls locs A E hP hD hS hM hL (RS_cons hy (RS_tl (RS_tl hR)))
    · rw [if_neg (fun z => h ((oi_lt hy hx).mp z))]
      rw [if_neg h] at kk
      exact kk p e s m args below meth c H ls locs A E hP hD hS hM hL (RS_cons hx (RS_tl (RS_tl hR)))
theorem G.ialdc {k n : Nat} {i : Int} (j : Nat) (hs : sh[k]? = some (.inr (.inl (0, n)))) (hi : i = (j : Int)) (h : j < n) (d : decode Y.2.1 pc = .ok (.iaload, 1))
    (kk : G sh l D ad ca Y (pc + 1) L (.inl (μ k j) :: st) μ r μ') : G sh l D ad ca Y pc L (.inl i :: .inr k :: st) μ r μ' := by
  subst hi
  exact G.iald hs ⟨by omega, by omega⟩ d kk
theorem G.iastc {k n : Nat} {i x : Int} (j : Nat) (hs : sh[k]? = some (.inr (.inl (0, n)))) (hi : i = (j : Int)) (h : j < n) (d : decode Y.2.1 pc = .ok (.iastore, 1))
    (kk : G sh l D ad ca Y (pc + 1) L st (mst μ k j x) r μ') : G sh l D ad ca Y pc L (.inl x :: .inl i :: .inr k :: st) μ r μ' := by
  subst hi
  exact G.iast hs ⟨by omega, by omega⟩ d kk
end GM1
theorem shM_0 : shM[0]? = some (.inl (8, [some 1, some 2, some 3, none, some 4, none, some 5, none, none, none, some 6, some 7, some 8, some 9, none, none, none, none, some 10])) := rfl
theorem shM_1 : shM[1]? = some (.inr (.inl (0, 60))) := rfl
theorem shM_2 : shM[2]? = some (.inr (.inl (0, 60))) := rfl
theorem shM_3 : shM[3]? = some (.inr (.inl (0, 240))) := rfl
theorem shM_4 : shM[4]? = some (.inr (.inl (0, 60))) := rfl
theorem shM_5 : shM[5]? = some (.inr (.inl (0, 60))) := rfl
theorem shM_6 : shM[6]? = some (.inr (.inl (4, 6561))) := rfl
theorem shM_7 : shM[7]? = some (.inr (.inl (0, 6561))) := rfl
theorem shM_8 : shM[8]? = some (.inr (.inl (0, 6561))) := rfl
theorem shM_9 : shM[9]? = some (.inr (.inl (4, 6561))) := rfl
theorem shM_10 : shM[10]? = some (.inr (.inl (0, 4096))) := rfl
theorem shX_0 : shX[0]? = some (.inl (7, [some 1, some 3, some 10, some 17, none, some 24, some 61, some 63, some 66])) := rfl
theorem shX_1 : shX[1]? = some (.inl (3, [some 2])) := rfl
theorem shX_2 : shX[2]? = some (.inr (.inl (1, 6561))) := rfl
theorem shX_3 : shX[3]? = some (.inl (5, [some 1, some 4, none, none, some 5, some 6, some 7, none, some 8, some 9])) := rfl
theorem shX_4 : shX[4]? = some (.inr (.inl (0, 8))) := rfl
theorem shX_5 : shX[5]? = some (.inr (.inl (0, 8))) := rfl
theorem shX_6 : shX[6]? = some (.inr (.inl (0, 8))) := rfl
theorem shX_7 : shX[7]? = some (.inr (.inl (2, 6561))) := rfl
theorem shX_8 : shX[8]? = some (.inr (.inl (0, 81))) := rfl
theorem shX_9 : shX[9]? = some (.inr (.inl (0, 81))) := rfl
theorem shX_10 : shX[10]? = some (.inl (4, [some 11, some 12, none, none, some 13, none, some 14, some 15, none, some 16])) := rfl
theorem shX_11 : shX[11]? = some (.inr (.inl (0, 12))) := rfl
theorem shX_12 : shX[12]? = some (.inr (.inl (0, 12))) := rfl
theorem shX_13 : shX[13]? = some (.inr (.inl (0, 8))) := rfl
theorem shX_14 : shX[14]? = some (.inr (.inl (0, 8))) := rfl
theorem shX_15 : shX[15]? = some (.inr (.inl (0, 8))) := rfl
theorem shX_16 : shX[16]? = some (.inr (.inl (0, 8))) := rfl
theorem shX_17 : shX[17]? = some (.inl (4, [some 18, some 19, none, none, some 20, none, some 21, some 22, none, some 23])) := rfl
theorem shX_18 : shX[18]? = some (.inr (.inl (0, 12))) := rfl
theorem shX_19 : shX[19]? = some (.inr (.inl (0, 12))) := rfl
theorem shX_20 : shX[20]? = some (.inr (.inl (0, 8))) := rfl
theorem shX_21 : shX[21]? = some (.inr (.inl (0, 8))) := rfl
theorem shX_22 : shX[22]? = some (.inr (.inl (0, 8))) := rfl
theorem shX_23 : shX[23]? = some (.inr (.inl (0, 8))) := rfl
theorem shX_24 : shX[24]? = some (.inl (2, [some 25, none, none])) := rfl
theorem shX_25 : shX[25]? = some (.inr (.inr [26, 33, 40, 47, 54])) := rfl
theorem shX_26 : shX[26]? = some (.inl (4, [some 27, some 28, none, none, some 29, none, some 30, some 31, none, some 32])) := rfl
theorem shX_27 : shX[27]? = some (.inr (.inl (0, 12))) := rfl
theorem shX_28 : shX[28]? = some (.inr (.inl (0, 12))) := rfl
theorem shX_29 : shX[29]? = some (.inr (.inl (0, 8))) := rfl
theorem shX_30 : shX[30]? = some (.inr (.inl (0, 8))) := rfl
theorem shX_31 : shX[31]? = some (.inr (.inl (0, 8))) := rfl
theorem shX_32 : shX[32]? = some (.inr (.inl (0, 8))) := rfl
theorem shX_33 : shX[33]? = some (.inl (4, [some 34, some 35, none, none, some 36, none, some 37, some 38, none, some 39])) := rfl
theorem shX_34 : shX[34]? = some (.inr (.inl (0, 12))) := rfl
theorem shX_35 : shX[35]? = some (.inr (.inl (0, 12))) := rfl
theorem shX_36 : shX[36]? = some (.inr (.inl (0, 8))) := rfl
theorem shX_37 : shX[37]? = some (.inr (.inl (0, 8))) := rfl
theorem shX_38 : shX[38]? = some (.inr (.inl (0, 8))) := rfl
theorem shX_39 : shX[39]? = some (.inr (.inl (0, 8))) := rfl
theorem shX_40 : shX[40]? = some (.inl (4, [some 41, some 42, none, none, some 43, none, some 44, some 45, none, some 46])) := rfl
theorem shX_41 : shX[41]? = some (.inr (.inl (0, 12))) := rfl
theorem shX_42 : shX[42]? = some (.inr (.inl (0, 12))) := rfl
theorem shX_43 : shX[43]? = some (.inr (.inl (0, 8))) := rfl
theorem shX_44 : shX[44]? = some (.inr (.inl (0, 8))) := rfl
theorem shX_45 : shX[45]? = some (.inr (.inl (0, 8))) := rfl
theorem shX_46 : shX[46]? = some (.inr (.inl (0, 8))) := rfl
theorem shX_47 : shX[47]? = some (.inl (4, [some 48, some 49, none, none, some 50, none, some 51, some 52, none, some 53])) := rfl
theorem shX_48 : shX[48]? = some (.inr (.inl (0, 12))) := rfl
theorem shX_49 : shX[49]? = some (.inr (.inl (0, 12))) := rfl
theorem shX_50 : shX[50]? = some (.inr (.inl (0, 8))) := rfl
theorem shX_51 : shX[51]? = some (.inr (.inl (0, 8))) := rfl
theorem shX_52 : shX[52]? = some (.inr (.inl (0, 8))) := rfl
theorem shX_53 : shX[53]? = some (.inr (.inl (0, 8))) := rfl
theorem shX_54 : shX[54]? = some (.inl (4, [some 55, some 56, none, none, some 57, none, some 58, some 59, none, some 60])) := rfl
theorem shX_55 : shX[55]? = some (.inr (.inl (0, 12))) := rfl
theorem shX_56 : shX[56]? = some (.inr (.inl (0, 12))) := rfl
theorem shX_57 : shX[57]? = some (.inr (.inl (0, 8))) := rfl
theorem shX_58 : shX[58]? = some (.inr (.inl (0, 8))) := rfl
theorem shX_59 : shX[59]? = some (.inr (.inl (0, 8))) := rfl
theorem shX_60 : shX[60]? = some (.inr (.inl (0, 8))) := rfl
theorem shX_61 : shX[61]? = some (.inl (0, [some 10, some 1, some 3, some 62])) := rfl
theorem shX_62 : shX[62]? = some (.inr (.inl (0, 8))) := rfl
theorem shX_63 : shX[63]? = some (.inl (6, [some 64, none, none, none, some 65, none, none])) := rfl
theorem shX_64 : shX[64]? = some (.inr (.inl (3, 60))) := rfl
theorem shX_65 : shX[65]? = some (.inr (.inl (0, 8))) := rfl
theorem shX_66 : shX[66]? = some (.inl (1, [some 1, some 67, none, some 68])) := rfl
theorem shX_67 : shX[67]? = some (.inr (.inl (2, 4096))) := rfl
theorem shX_68 : shX[68]? = some (.inr (.inl (0, 206))) := rfl
end
