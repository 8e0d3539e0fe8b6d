section
-- ===== PART A: goes FIRST, ahead of the names: the tables' words, and 'selects' of the private methods out of them =====
/-- a private method of a class that the tables say can be made, by its rows of tables_1 -/
def lw_okq (q : MethodName × Nat) : Prop := (q.1.cls ≠ "java/lang/invoke/MethodHandle" ∧ q.1.cls ≠ "java/lang/invoke/VarHandle") ∧ Cond.instantiable q.1.cls q.2 ∈ tables_1 ∧ Cond.privateMethod q.1 ∈ tables_1 ∧ Cond.instanceMethod q.1 ∈ tables_1
theorem lw_p0 : lw_okq (⟨"OptimaWorks", "theValues", "()LOptimaWorks$ValueDesk;"⟩, 11) := ⟨⟨by decide +kernel, by decide +kernel⟩, List.mem_of_getElem? (i := 31) (by decide +kernel), List.mem_of_getElem? (i := 291) (by decide +kernel), List.mem_of_getElem? (i := 292) (by decide +kernel)⟩
theorem lw_p1 : lw_okq (⟨"OptimaWorks$ValueDesk", "narrow", "(I)V"⟩, 20) := ⟨⟨by decide +kernel, by decide +kernel⟩, List.mem_of_getElem? (i := 295) (by decide +kernel), List.mem_of_getElem? (i := 378) (by decide +kernel), List.mem_of_getElem? (i := 379) (by decide +kernel)⟩
theorem lw_p2 : lw_okq (⟨"OptimaWorks$ValueDesk", "narrowBy", "(I)V"⟩, 20) := ⟨⟨by decide +kernel, by decide +kernel⟩, List.mem_of_getElem? (i := 295) (by decide +kernel), List.mem_of_getElem? (i := 383) (by decide +kernel), List.mem_of_getElem? (i := 384) (by decide +kernel)⟩
theorem lw_p3 : lw_okq (⟨"OptimaWorks$ValueDesk", "narrowDifferent", "(I)V"⟩, 20) := ⟨⟨by decide +kernel, by decide +kernel⟩, List.mem_of_getElem? (i := 295) (by decide +kernel), List.mem_of_getElem? (i := 387) (by decide +kernel), List.mem_of_getElem? (i := 388) (by decide +kernel)⟩
theorem lw_p4 : lw_okq (⟨"OptimaWorks$ValueDesk", "takeMembers", "(I)I"⟩, 20) := ⟨⟨by decide +kernel, by decide +kernel⟩, List.mem_of_getElem? (i := 295) (by decide +kernel), List.mem_of_getElem? (i := 391) (by decide +kernel), List.mem_of_getElem? (i := 392) (by decide +kernel)⟩
theorem lw_p5 : lw_okq (⟨"OptimaWorks$ValueDesk", "cutTo", "(II)V"⟩, 20) := ⟨⟨by decide +kernel, by decide +kernel⟩, List.mem_of_getElem? (i := 295) (by decide +kernel), List.mem_of_getElem? (i := 401) (by decide +kernel), List.mem_of_getElem? (i := 402) (by decide +kernel)⟩
theorem lw_p6 : lw_okq (⟨"OptimaWorks$ValueDesk", "narrowOrder", "(III)V"⟩, 20) := ⟨⟨by decide +kernel, by decide +kernel⟩, List.mem_of_getElem? (i := 295) (by decide +kernel), List.mem_of_getElem? (i := 405) (by decide +kernel), List.mem_of_getElem? (i := 406) (by decide +kernel)⟩
theorem lw_p7 : lw_okq (⟨"OptimaWorks$ValueDesk", "narrowSum", "(I)V"⟩, 20) := ⟨⟨by decide +kernel, by decide +kernel⟩, List.mem_of_getElem? (i := 295) (by decide +kernel), List.mem_of_getElem? (i := 416) (by decide +kernel), List.mem_of_getElem? (i := 417) (by decide +kernel)⟩
theorem lw_p8 : lw_okq (⟨"OptimaWorks$ValueDesk", "moveUp", "(II)V"⟩, 20) := ⟨⟨by decide +kernel, by decide +kernel⟩, List.mem_of_getElem? (i := 295) (by decide +kernel), List.mem_of_getElem? (i := 423) (by decide +kernel), List.mem_of_getElem? (i := 424) (by decide +kernel)⟩
theorem lw_p9 : lw_okq (⟨"OptimaWorks$ValueDesk", "moveDown", "(II)Z"⟩, 20) := ⟨⟨by decide +kernel, by decide +kernel⟩, List.mem_of_getElem? (i := 295) (by decide +kernel), List.mem_of_getElem? (i := 430) (by decide +kernel), List.mem_of_getElem? (i := 431) (by decide +kernel)⟩
theorem lw_p10 : lw_okq (⟨"OptimaWorks$ValueDesk", "narrowMost", "(I)V"⟩, 20) := ⟨⟨by decide +kernel, by decide +kernel⟩, List.mem_of_getElem? (i := 295) (by decide +kernel), List.mem_of_getElem? (i := 434) (by decide +kernel), List.mem_of_getElem? (i := 435) (by decide +kernel)⟩
theorem lw_p11 : lw_okq (⟨"OptimaWorks$ValueDesk", "narrowPairs", "(I)V"⟩, 20) := ⟨⟨by decide +kernel, by decide +kernel⟩, List.mem_of_getElem? (i := 295) (by decide +kernel), List.mem_of_getElem? (i := 438) (by decide +kernel), List.mem_of_getElem? (i := 439) (by decide +kernel)⟩
theorem lw_p12 : lw_okq (⟨"OptimaWorks$ValueDesk", "isAnyEmpty", "()Z"⟩, 20) := ⟨⟨by decide +kernel, by decide +kernel⟩, List.mem_of_getElem? (i := 295) (by decide +kernel), List.mem_of_getElem? (i := 442) (by decide +kernel), List.mem_of_getElem? (i := 443) (by decide +kernel)⟩
theorem lw_p13 : lw_okq (⟨"OptimaWorks$ValueDesk", "makeListing", "()V"⟩, 20) := ⟨⟨by decide +kernel, by decide +kernel⟩, List.mem_of_getElem? (i := 295) (by decide +kernel), List.mem_of_getElem? (i := 455) (by decide +kernel), List.mem_of_getElem? (i := 456) (by decide +kernel)⟩
theorem lw_p14 : lw_okq (⟨"OptimaWorks$ValueDesk", "isListable", "()Z"⟩, 20) := ⟨⟨by decide +kernel, by decide +kernel⟩, List.mem_of_getElem? (i := 295) (by decide +kernel), List.mem_of_getElem? (i := 459) (by decide +kernel), List.mem_of_getElem? (i := 460) (by decide +kernel)⟩
theorem lw_p15 : lw_okq (⟨"OptimaWorks$ValueDesk", "keepListed", "()V"⟩, 20) := ⟨⟨by decide +kernel, by decide +kernel⟩, List.mem_of_getElem? (i := 295) (by decide +kernel), List.mem_of_getElem? (i := 463) (by decide +kernel), List.mem_of_getElem? (i := 464) (by decide +kernel)⟩
def lw_privs_1 : List (MethodName × Nat) := [(⟨"OptimaWorks", "theValues", "()LOptimaWorks$ValueDesk;"⟩, 11), (⟨"OptimaWorks$ValueDesk", "narrow", "(I)V"⟩, 20), (⟨"OptimaWorks$ValueDesk", "narrowBy", "(I)V"⟩, 20), (⟨"OptimaWorks$ValueDesk", "narrowDifferent", "(I)V"⟩, 20), (⟨"OptimaWorks$ValueDesk", "takeMembers", "(I)I"⟩, 20), (⟨"OptimaWorks$ValueDesk", "cutTo", "(II)V"⟩, 20), (⟨"OptimaWorks$ValueDesk", "narrowOrder", "(III)V"⟩, 20), (⟨"OptimaWorks$ValueDesk", "narrowSum", "(I)V"⟩, 20), (⟨"OptimaWorks$ValueDesk", "moveUp", "(II)V"⟩, 20), (⟨"OptimaWorks$ValueDesk", "moveDown", "(II)Z"⟩, 20), (⟨"OptimaWorks$ValueDesk", "narrowMost", "(I)V"⟩, 20), (⟨"OptimaWorks$ValueDesk", "narrowPairs", "(I)V"⟩, 20), (⟨"OptimaWorks$ValueDesk", "isAnyEmpty", "()Z"⟩, 20), (⟨"OptimaWorks$ValueDesk", "makeListing", "()V"⟩, 20), (⟨"OptimaWorks$ValueDesk", "isListable", "()Z"⟩, 20), (⟨"OptimaWorks$ValueDesk", "keepListed", "()V"⟩, 20)]
theorem lw_r1 : ∀ q ∈ lw_privs_1, lw_okq q := List.forall_mem_cons.mpr ⟨lw_p0, List.forall_mem_cons.mpr ⟨lw_p1, List.forall_mem_cons.mpr ⟨lw_p2, List.forall_mem_cons.mpr ⟨lw_p3, List.forall_mem_cons.mpr ⟨lw_p4, List.forall_mem_cons.mpr ⟨lw_p5, List.forall_mem_cons.mpr ⟨lw_p6, List.forall_mem_cons.mpr ⟨lw_p7, List.forall_mem_cons.mpr ⟨lw_p8, List.forall_mem_cons.mpr ⟨lw_p9, List.forall_mem_cons.mpr ⟨lw_p10, List.forall_mem_cons.mpr ⟨lw_p11, List.forall_mem_cons.mpr ⟨lw_p12, List.forall_mem_cons.mpr ⟨lw_p13, List.forall_mem_cons.mpr ⟨lw_p14, List.forall_mem_cons.mpr ⟨lw_p15, fun _ h => absurd h List.not_mem_nil⟩⟩⟩⟩⟩⟩⟩⟩⟩⟩⟩⟩⟩⟩⟩⟩
theorem lw_p16 : lw_okq (⟨"OptimaWorks$ValueDesk", "nextValue", "(I)I"⟩, 20) := ⟨⟨by decide +kernel, by decide +kernel⟩, List.mem_of_getElem? (i := 295) (by decide +kernel), List.mem_of_getElem? (i := 476) (by decide +kernel), List.mem_of_getElem? (i := 477) (by decide +kernel)⟩
theorem lw_p17 : lw_okq (⟨"OptimaWorks$ValueDesk", "keepsAt", "(I)Z"⟩, 20) := ⟨⟨by decide +kernel, by decide +kernel⟩, List.mem_of_getElem? (i := 295) (by decide +kernel), List.mem_of_getElem? (i := 480) (by decide +kernel), List.mem_of_getElem? (i := 481) (by decide +kernel)⟩
theorem lw_p18 : lw_okq (⟨"OptimaWorks$ValueDesk", "keeps", "(I)Z"⟩, 20) := ⟨⟨by decide +kernel, by decide +kernel⟩, List.mem_of_getElem? (i := 295) (by decide +kernel), List.mem_of_getElem? (i := 484) (by decide +kernel), List.mem_of_getElem? (i := 485) (by decide +kernel)⟩
theorem lw_p19 : lw_okq (⟨"OptimaWorks$ValueDesk", "change", "()V"⟩, 20) := ⟨⟨by decide +kernel, by decide +kernel⟩, List.mem_of_getElem? (i := 295) (by decide +kernel), List.mem_of_getElem? (i := 516) (by decide +kernel), List.mem_of_getElem? (i := 517) (by decide +kernel)⟩
theorem lw_p20 : lw_okq (⟨"OptimaWorks", "theClauses", "()LOptimaWorks$ClauseDesk;"⟩, 11) := ⟨⟨by decide +kernel, by decide +kernel⟩, List.mem_of_getElem? (i := 31) (by decide +kernel), List.mem_of_getElem? (i := 524) (by decide +kernel), List.mem_of_getElem? (i := 525) (by decide +kernel)⟩
theorem lw_p21 : lw_okq (⟨"OptimaWorks$ClauseDesk", "mark", "(II)V"⟩, 7) := ⟨⟨by decide +kernel, by decide +kernel⟩, List.mem_of_getElem? (i := 528) (by decide +kernel), List.mem_of_getElem? (i := 561) (by decide +kernel), List.mem_of_getElem? (i := 562) (by decide +kernel)⟩
theorem lw_p22 : lw_okq (⟨"OptimaWorks$ClauseDesk", "canKeep", "(I)Z"⟩, 7) := ⟨⟨by decide +kernel, by decide +kernel⟩, List.mem_of_getElem? (i := 528) (by decide +kernel), List.mem_of_getElem? (i := 581) (by decide +kernel), List.mem_of_getElem? (i := 582) (by decide +kernel)⟩
theorem lw_p23 : lw_okq (⟨"OptimaWorks", "theNets", "()LOptimaWorks$NetDesk;"⟩, 11) := ⟨⟨by decide +kernel, by decide +kernel⟩, List.mem_of_getElem? (i := 31) (by decide +kernel), List.mem_of_getElem? (i := 589) (by decide +kernel), List.mem_of_getElem? (i := 590) (by decide +kernel)⟩
theorem lw_p24 : lw_okq (⟨"OptimaWorks$NetDesk", "cheapestUnseen", "(J)I"⟩, 14) := ⟨⟨by decide +kernel, by decide +kernel⟩, List.mem_of_getElem? (i := 593) (by decide +kernel), List.mem_of_getElem? (i := 656) (by decide +kernel), List.mem_of_getElem? (i := 657) (by decide +kernel)⟩
theorem lw_p25 : lw_okq (⟨"OptimaWorks$Reader", "makeRoom", "()V"⟩, 11) := ⟨⟨by decide +kernel, by decide +kernel⟩, List.mem_of_getElem? (i := 681) (by decide +kernel), List.mem_of_getElem? (i := 800) (by decide +kernel), List.mem_of_getElem? (i := 801) (by decide +kernel)⟩
theorem lw_p26 : lw_okq (⟨"OptimaWorks$Words", "skipBlanks", "()V"⟩, 9) := ⟨⟨by decide +kernel, by decide +kernel⟩, List.mem_of_getElem? (i := 39) (by decide +kernel), List.mem_of_getElem? (i := 818) (by decide +kernel), List.mem_of_getElem? (i := 819) (by decide +kernel)⟩
theorem lw_p27 : lw_okq (⟨"OptimaWorks$Words", "takeName", "()V"⟩, 9) := ⟨⟨by decide +kernel, by decide +kernel⟩, List.mem_of_getElem? (i := 39) (by decide +kernel), List.mem_of_getElem? (i := 822) (by decide +kernel), List.mem_of_getElem? (i := 823) (by decide +kernel)⟩
theorem lw_p28 : lw_okq (⟨"OptimaWorks$Words", "keywordOf", "(I)I"⟩, 9) := ⟨⟨by decide +kernel, by decide +kernel⟩, List.mem_of_getElem? (i := 39) (by decide +kernel), List.mem_of_getElem? (i := 826) (by decide +kernel), List.mem_of_getElem? (i := 827) (by decide +kernel)⟩
theorem lw_p29 : lw_okq (⟨"OptimaWorks$Words", "takeNumber", "()V"⟩, 9) := ⟨⟨by decide +kernel, by decide +kernel⟩, List.mem_of_getElem? (i := 39) (by decide +kernel), List.mem_of_getElem? (i := 879) (by decide +kernel), List.mem_of_getElem? (i := 880) (by decide +kernel)⟩
theorem lw_p30 : lw_okq (⟨"OptimaWorks$Words", "takeSign", "(I)V"⟩, 9) := ⟨⟨by decide +kernel, by decide +kernel⟩, List.mem_of_getElem? (i := 39) (by decide +kernel), List.mem_of_getElem? (i := 883) (by decide +kernel), List.mem_of_getElem? (i := 884) (by decide +kernel)⟩
theorem lw_p31 : lw_okq (⟨"OptimaWorks$Reader", "readSet", "()V"⟩, 11) := ⟨⟨by decide +kernel, by decide +kernel⟩, List.mem_of_getElem? (i := 681) (by decide +kernel), List.mem_of_getElem? (i := 947) (by decide +kernel), List.mem_of_getElem? (i := 948) (by decide +kernel)⟩
def lw_privs_2 : List (MethodName × Nat) := [(⟨"OptimaWorks$ValueDesk", "nextValue", "(I)I"⟩, 20), (⟨"OptimaWorks$ValueDesk", "keepsAt", "(I)Z"⟩, 20), (⟨"OptimaWorks$ValueDesk", "keeps", "(I)Z"⟩, 20), (⟨"OptimaWorks$ValueDesk", "change", "()V"⟩, 20), (⟨"OptimaWorks", "theClauses", "()LOptimaWorks$ClauseDesk;"⟩, 11), (⟨"OptimaWorks$ClauseDesk", "mark", "(II)V"⟩, 7), (⟨"OptimaWorks$ClauseDesk", "canKeep", "(I)Z"⟩, 7), (⟨"OptimaWorks", "theNets", "()LOptimaWorks$NetDesk;"⟩, 11), (⟨"OptimaWorks$NetDesk", "cheapestUnseen", "(J)I"⟩, 14), (⟨"OptimaWorks$Reader", "makeRoom", "()V"⟩, 11), (⟨"OptimaWorks$Words", "skipBlanks", "()V"⟩, 9), (⟨"OptimaWorks$Words", "takeName", "()V"⟩, 9), (⟨"OptimaWorks$Words", "keywordOf", "(I)I"⟩, 9), (⟨"OptimaWorks$Words", "takeNumber", "()V"⟩, 9), (⟨"OptimaWorks$Words", "takeSign", "(I)V"⟩, 9), (⟨"OptimaWorks$Reader", "readSet", "()V"⟩, 11)]
theorem lw_r2 : ∀ q ∈ lw_privs_2, lw_okq q := List.forall_mem_cons.mpr ⟨lw_p16, List.forall_mem_cons.mpr ⟨lw_p17, List.forall_mem_cons.mpr ⟨lw_p18, List.forall_mem_cons.mpr ⟨lw_p19, List.forall_mem_cons.mpr ⟨lw_p20, List.forall_mem_cons.mpr ⟨lw_p21, List.forall_mem_cons.mpr ⟨lw_p22, List.forall_mem_cons.mpr ⟨lw_p23, List.forall_mem_cons.mpr ⟨lw_p24, List.forall_mem_cons.mpr ⟨lw_p25, List.forall_mem_cons.mpr ⟨lw_p26, List.forall_mem_cons.mpr ⟨lw_p27, List.forall_mem_cons.mpr ⟨lw_p28, List.forall_mem_cons.mpr ⟨lw_p29, List.forall_mem_cons.mpr ⟨lw_p30, List.forall_mem_cons.mpr ⟨lw_p31, fun _ h => absurd h List.not_mem_nil⟩⟩⟩⟩⟩⟩⟩⟩⟩⟩⟩⟩⟩⟩⟩⟩
theorem lw_p32 : lw_okq (⟨"OptimaWorks$Reader", "takeNewName", "()V"⟩, 11) := ⟨⟨by decide +kernel, by decide +kernel⟩, List.mem_of_getElem? (i := 681) (by decide +kernel), List.mem_of_getElem? (i := 952) (by decide +kernel), List.mem_of_getElem? (i := 953) (by decide +kernel)⟩
theorem lw_p33 : lw_okq (⟨"java/lang/Throwable", "fillInStackTrace", "(I)Ljava/lang/Throwable;"⟩, 6) := ⟨⟨by decide +kernel, by decide +kernel⟩, List.mem_of_getElem? (i := 998) (by decide +kernel), List.mem_of_getElem? (i := 996) (by decide +kernel), List.mem_of_getElem? (i := 997) (by decide +kernel)⟩
theorem lw_p34 : lw_okq (⟨"OptimaWorks$Reader", "takeWholeNumber", "()I"⟩, 11) := ⟨⟨by decide +kernel, by decide +kernel⟩, List.mem_of_getElem? (i := 681) (by decide +kernel), List.mem_of_getElem? (i := 1036) (by decide +kernel), List.mem_of_getElem? (i := 1037) (by decide +kernel)⟩
theorem lw_p35 : lw_okq (⟨"OptimaWorks$Reader", "readParam", "()V"⟩, 11) := ⟨⟨by decide +kernel, by decide +kernel⟩, List.mem_of_getElem? (i := 681) (by decide +kernel), List.mem_of_getElem? (i := 1048) (by decide +kernel), List.mem_of_getElem? (i := 1049) (by decide +kernel)⟩
theorem lw_p36 : lw_okq (⟨"OptimaWorks$Reader", "takePlaces", "()V"⟩, 11) := ⟨⟨by decide +kernel, by decide +kernel⟩, List.mem_of_getElem? (i := 681) (by decide +kernel), List.mem_of_getElem? (i := 1052) (by decide +kernel), List.mem_of_getElem? (i := 1053) (by decide +kernel)⟩
theorem lw_p37 : lw_okq (⟨"OptimaWorks$Reader", "takeSetName", "()I"⟩, 11) := ⟨⟨by decide +kernel, by decide +kernel⟩, List.mem_of_getElem? (i := 681) (by decide +kernel), List.mem_of_getElem? (i := 1056) (by decide +kernel), List.mem_of_getElem? (i := 1057) (by decide +kernel)⟩
theorem lw_p38 : lw_okq (⟨"OptimaWorks$Reader", "linear", "()I"⟩, 11) := ⟨⟨by decide +kernel, by decide +kernel⟩, List.mem_of_getElem? (i := 681) (by decide +kernel), List.mem_of_getElem? (i := 1064) (by decide +kernel), List.mem_of_getElem? (i := 1065) (by decide +kernel)⟩
theorem lw_p39 : lw_okq (⟨"OptimaWorks$Reader", "deeper", "(Z)V"⟩, 11) := ⟨⟨by decide +kernel, by decide +kernel⟩, List.mem_of_getElem? (i := 681) (by decide +kernel), List.mem_of_getElem? (i := 1068) (by decide +kernel), List.mem_of_getElem? (i := 1069) (by decide +kernel)⟩
theorem lw_p40 : lw_okq (⟨"OptimaWorks$Reader", "refuseNoFactor", "()V"⟩, 11) := ⟨⟨by decide +kernel, by decide +kernel⟩, List.mem_of_getElem? (i := 681) (by decide +kernel), List.mem_of_getElem? (i := 1072) (by decide +kernel), List.mem_of_getElem? (i := 1073) (by decide +kernel)⟩
theorem lw_p41 : lw_okq (⟨"OptimaWorks$Reader", "findBinder", "(J)I"⟩, 11) := ⟨⟨by decide +kernel, by decide +kernel⟩, List.mem_of_getElem? (i := 681) (by decide +kernel), List.mem_of_getElem? (i := 1076) (by decide +kernel), List.mem_of_getElem? (i := 1077) (by decide +kernel)⟩
theorem lw_p42 : lw_okq (⟨"OptimaWorks$Reader", "node", "(I)I"⟩, 11) := ⟨⟨by decide +kernel, by decide +kernel⟩, List.mem_of_getElem? (i := 681) (by decide +kernel), List.mem_of_getElem? (i := 1084) (by decide +kernel), List.mem_of_getElem? (i := 1085) (by decide +kernel)⟩
theorem lw_p43 : lw_okq (⟨"OptimaWorks$Reader", "term", "()I"⟩, 11) := ⟨⟨by decide +kernel, by decide +kernel⟩, List.mem_of_getElem? (i := 681) (by decide +kernel), List.mem_of_getElem? (i := 1088) (by decide +kernel), List.mem_of_getElem? (i := 1089) (by decide +kernel)⟩
theorem lw_p44 : lw_okq (⟨"OptimaWorks$Reader", "factor", "()I"⟩, 11) := ⟨⟨by decide +kernel, by decide +kernel⟩, List.mem_of_getElem? (i := 681) (by decide +kernel), List.mem_of_getElem? (i := 1092) (by decide +kernel), List.mem_of_getElem? (i := 1093) (by decide +kernel)⟩
theorem lw_p45 : lw_okq (⟨"OptimaWorks$Reader", "named", "()I"⟩, 11) := ⟨⟨by decide +kernel, by decide +kernel⟩, List.mem_of_getElem? (i := 681) (by decide +kernel), List.mem_of_getElem? (i := 1096) (by decide +kernel), List.mem_of_getElem? (i := 1097) (by decide +kernel)⟩
theorem lw_p46 : lw_okq (⟨"OptimaWorks$Reader", "summed", "()I"⟩, 11) := ⟨⟨by decide +kernel, by decide +kernel⟩, List.mem_of_getElem? (i := 681) (by decide +kernel), List.mem_of_getElem? (i := 1100) (by decide +kernel), List.mem_of_getElem? (i := 1101) (by decide +kernel)⟩
theorem lw_p47 : lw_okq (⟨"OptimaWorks$Reader", "binding", "()I"⟩, 11) := ⟨⟨by decide +kernel, by decide +kernel⟩, List.mem_of_getElem? (i := 681) (by decide +kernel), List.mem_of_getElem? (i := 1104) (by decide +kernel), List.mem_of_getElem? (i := 1105) (by decide +kernel)⟩
def lw_privs_3 : List (MethodName × Nat) := [(⟨"OptimaWorks$Reader", "takeNewName", "()V"⟩, 11), (⟨"java/lang/Throwable", "fillInStackTrace", "(I)Ljava/lang/Throwable;"⟩, 6), (⟨"OptimaWorks$Reader", "takeWholeNumber", "()I"⟩, 11), (⟨"OptimaWorks$Reader", "readParam", "()V"⟩, 11), (⟨"OptimaWorks$Reader", "takePlaces", "()V"⟩, 11), (⟨"OptimaWorks$Reader", "takeSetName", "()I"⟩, 11), (⟨"OptimaWorks$Reader", "linear", "()I"⟩, 11), (⟨"OptimaWorks$Reader", "deeper", "(Z)V"⟩, 11), (⟨"OptimaWorks$Reader", "refuseNoFactor", "()V"⟩, 11), (⟨"OptimaWorks$Reader", "findBinder", "(J)I"⟩, 11), (⟨"OptimaWorks$Reader", "node", "(I)I"⟩, 11), (⟨"OptimaWorks$Reader", "term", "()I"⟩, 11), (⟨"OptimaWorks$Reader", "factor", "()I"⟩, 11), (⟨"OptimaWorks$Reader", "named", "()I"⟩, 11), (⟨"OptimaWorks$Reader", "summed", "()I"⟩, 11), (⟨"OptimaWorks$Reader", "binding", "()I"⟩, 11)]
theorem lw_r3 : ∀ q ∈ lw_privs_3, lw_okq q := List.forall_mem_cons.mpr ⟨lw_p32, List.forall_mem_cons.mpr ⟨lw_p33, List.forall_mem_cons.mpr ⟨lw_p34, List.forall_mem_cons.mpr ⟨lw_p35, List.forall_mem_cons.mpr ⟨lw_p36, List.forall_mem_cons.mpr ⟨lw_p37, List.forall_mem_cons.mpr ⟨lw_p38, List.forall_mem_cons.mpr ⟨lw_p39, List.forall_mem_cons.mpr ⟨lw_p40, List.forall_mem_cons.mpr ⟨lw_p41, List.forall_mem_cons.mpr ⟨lw_p42, List.forall_mem_cons.mpr ⟨lw_p43, List.forall_mem_cons.mpr ⟨lw_p44, List.forall_mem_cons.mpr ⟨lw_p45, List.forall_mem_cons.mpr ⟨lw_p46, List.forall_mem_cons.mpr ⟨lw_p47, fun _ h => absurd h List.not_mem_nil⟩⟩⟩⟩⟩⟩⟩⟩⟩⟩⟩⟩⟩⟩⟩⟩
theorem lw_p48 : lw_okq (⟨"OptimaWorks$Reader", "addBinder", "()V"⟩, 11) := ⟨⟨by decide +kernel, by decide +kernel⟩, List.mem_of_getElem? (i := 681) (by decide +kernel), List.mem_of_getElem? (i := 1108) (by decide +kernel), List.mem_of_getElem? (i := 1109) (by decide +kernel)⟩
theorem lw_p49 : lw_okq (⟨"OptimaWorks$Reader", "anyOf", "()I"⟩, 11) := ⟨⟨by decide +kernel, by decide +kernel⟩, List.mem_of_getElem? (i := 681) (by decide +kernel), List.mem_of_getElem? (i := 1112) (by decide +kernel), List.mem_of_getElem? (i := 1113) (by decide +kernel)⟩
theorem lw_p50 : lw_okq (⟨"OptimaWorks$Reader", "allOf", "()I"⟩, 11) := ⟨⟨by decide +kernel, by decide +kernel⟩, List.mem_of_getElem? (i := 681) (by decide +kernel), List.mem_of_getElem? (i := 1116) (by decide +kernel), List.mem_of_getElem? (i := 1117) (by decide +kernel)⟩
theorem lw_p51 : lw_okq (⟨"OptimaWorks$Reader", "oneOf", "()I"⟩, 11) := ⟨⟨by decide +kernel, by decide +kernel⟩, List.mem_of_getElem? (i := 681) (by decide +kernel), List.mem_of_getElem? (i := 1120) (by decide +kernel), List.mem_of_getElem? (i := 1121) (by decide +kernel)⟩
theorem lw_p52 : lw_okq (⟨"OptimaWorks$Reader", "comparison", "(Z)I"⟩, 11) := ⟨⟨by decide +kernel, by decide +kernel⟩, List.mem_of_getElem? (i := 681) (by decide +kernel), List.mem_of_getElem? (i := 1124) (by decide +kernel), List.mem_of_getElem? (i := 1125) (by decide +kernel)⟩
theorem lw_p53 : lw_okq (⟨"OptimaWorks$Reader", "link", "(IIII)V"⟩, 11) := ⟨⟨by decide +kernel, by decide +kernel⟩, List.mem_of_getElem? (i := 681) (by decide +kernel), List.mem_of_getElem? (i := 1128) (by decide +kernel), List.mem_of_getElem? (i := 1129) (by decide +kernel)⟩
theorem lw_p54 : lw_okq (⟨"OptimaWorks$Worker", "number", "(II)V"⟩, 20) := ⟨⟨by decide +kernel, by decide +kernel⟩, List.mem_of_getElem? (i := 687) (by decide +kernel), List.mem_of_getElem? (i := 1136) (by decide +kernel), List.mem_of_getElem? (i := 1137) (by decide +kernel)⟩
theorem lw_p55 : lw_okq (⟨"OptimaWorks$Worker", "linear", "(II)V"⟩, 20) := ⟨⟨by decide +kernel, by decide +kernel⟩, List.mem_of_getElem? (i := 687) (by decide +kernel), List.mem_of_getElem? (i := 1140) (by decide +kernel), List.mem_of_getElem? (i := 1141) (by decide +kernel)⟩
theorem lw_p56 : lw_okq (⟨"OptimaWorks$Worker", "term", "(II)V"⟩, 20) := ⟨⟨by decide +kernel, by decide +kernel⟩, List.mem_of_getElem? (i := 687) (by decide +kernel), List.mem_of_getElem? (i := 1144) (by decide +kernel), List.mem_of_getElem? (i := 1145) (by decide +kernel)⟩
theorem lw_p57 : lw_okq (⟨"OptimaWorks$Worker", "factor", "(II)V"⟩, 20) := ⟨⟨by decide +kernel, by decide +kernel⟩, List.mem_of_getElem? (i := 687) (by decide +kernel), List.mem_of_getElem? (i := 1148) (by decide +kernel), List.mem_of_getElem? (i := 1149) (by decide +kernel)⟩
theorem lw_p58 : lw_okq (⟨"OptimaWorks$Worker", "step", "()V"⟩, 20) := ⟨⟨by decide +kernel, by decide +kernel⟩, List.mem_of_getElem? (i := 687) (by decide +kernel), List.mem_of_getElem? (i := 1152) (by decide +kernel), List.mem_of_getElem? (i := 1153) (by decide +kernel)⟩
theorem lw_p59 : lw_okq (⟨"OptimaWorks$Worker", "setNumber", "(IJJ)V"⟩, 20) := ⟨⟨by decide +kernel, by decide +kernel⟩, List.mem_of_getElem? (i := 687) (by decide +kernel), List.mem_of_getElem? (i := 1157) (by decide +kernel), List.mem_of_getElem? (i := 1158) (by decide +kernel)⟩
theorem lw_p60 : lw_okq (⟨"OptimaWorks$Worker", "lookUp", "(II)V"⟩, 20) := ⟨⟨by decide +kernel, by decide +kernel⟩, List.mem_of_getElem? (i := 687) (by decide +kernel), List.mem_of_getElem? (i := 1161) (by decide +kernel), List.mem_of_getElem? (i := 1162) (by decide +kernel)⟩
theorem lw_p61 : lw_okq (⟨"OptimaWorks$Worker", "place", "(III)I"⟩, 20) := ⟨⟨by decide +kernel, by decide +kernel⟩, List.mem_of_getElem? (i := 687) (by decide +kernel), List.mem_of_getElem? (i := 1165) (by decide +kernel), List.mem_of_getElem? (i := 1166) (by decide +kernel)⟩
theorem lw_p62 : lw_okq (⟨"OptimaWorks$Worker", "turn", "(I)V"⟩, 20) := ⟨⟨by decide +kernel, by decide +kernel⟩, List.mem_of_getElem? (i := 687) (by decide +kernel), List.mem_of_getElem? (i := 1169) (by decide +kernel), List.mem_of_getElem? (i := 1170) (by decide +kernel)⟩
theorem lw_p63 : lw_okq (⟨"OptimaWorks$Worker", "sum", "(II)V"⟩, 20) := ⟨⟨by decide +kernel, by decide +kernel⟩, List.mem_of_getElem? (i := 687) (by decide +kernel), List.mem_of_getElem? (i := 1173) (by decide +kernel), List.mem_of_getElem? (i := 1174) (by decide +kernel)⟩
def lw_privs_4 : List (MethodName × Nat) := [(⟨"OptimaWorks$Reader", "addBinder", "()V"⟩, 11), (⟨"OptimaWorks$Reader", "anyOf", "()I"⟩, 11), (⟨"OptimaWorks$Reader", "allOf", "()I"⟩, 11), (⟨"OptimaWorks$Reader", "oneOf", "()I"⟩, 11), (⟨"OptimaWorks$Reader", "comparison", "(Z)I"⟩, 11), (⟨"OptimaWorks$Reader", "link", "(IIII)V"⟩, 11), (⟨"OptimaWorks$Worker", "number", "(II)V"⟩, 20), (⟨"OptimaWorks$Worker", "linear", "(II)V"⟩, 20), (⟨"OptimaWorks$Worker", "term", "(II)V"⟩, 20), (⟨"OptimaWorks$Worker", "factor", "(II)V"⟩, 20), (⟨"OptimaWorks$Worker", "step", "()V"⟩, 20), (⟨"OptimaWorks$Worker", "setNumber", "(IJJ)V"⟩, 20), (⟨"OptimaWorks$Worker", "lookUp", "(II)V"⟩, 20), (⟨"OptimaWorks$Worker", "place", "(III)I"⟩, 20), (⟨"OptimaWorks$Worker", "turn", "(I)V"⟩, 20), (⟨"OptimaWorks$Worker", "sum", "(II)V"⟩, 20)]
theorem lw_r4 : ∀ q ∈ lw_privs_4, lw_okq q := List.forall_mem_cons.mpr ⟨lw_p48, List.forall_mem_cons.mpr ⟨lw_p49, List.forall_mem_cons.mpr ⟨lw_p50, List.forall_mem_cons.mpr ⟨lw_p51, List.forall_mem_cons.mpr ⟨lw_p52, List.forall_mem_cons.mpr ⟨lw_p53, List.forall_mem_cons.mpr ⟨lw_p54, List.forall_mem_cons.mpr ⟨lw_p55, List.forall_mem_cons.mpr ⟨lw_p56, List.forall_mem_cons.mpr ⟨lw_p57, List.forall_mem_cons.mpr ⟨lw_p58, List.forall_mem_cons.mpr ⟨lw_p59, List.forall_mem_cons.mpr ⟨lw_p60, List.forall_mem_cons.mpr ⟨lw_p61, List.forall_mem_cons.mpr ⟨lw_p62, List.forall_mem_cons.mpr ⟨lw_p63, fun _ h => absurd h List.not_mem_nil⟩⟩⟩⟩⟩⟩⟩⟩⟩⟩⟩⟩⟩⟩⟩⟩
theorem lw_p64 : lw_okq (⟨"OptimaWorks$Worker", "boundMembers", "(I)I"⟩, 20) := ⟨⟨by decide +kernel, by decide +kernel⟩, List.mem_of_getElem? (i := 687) (by decide +kernel), List.mem_of_getElem? (i := 1177) (by decide +kernel), List.mem_of_getElem? (i := 1178) (by decide +kernel)⟩
theorem lw_p65 : lw_okq (⟨"OptimaWorks$Worker", "bind", "(II)V"⟩, 20) := ⟨⟨by decide +kernel, by decide +kernel⟩, List.mem_of_getElem? (i := 687) (by decide +kernel), List.mem_of_getElem? (i := 1182) (by decide +kernel), List.mem_of_getElem? (i := 1183) (by decide +kernel)⟩
theorem lw_p66 : lw_okq (⟨"OptimaWorks$Worker", "anyHolds", "(II)Z"⟩, 20) := ⟨⟨by decide +kernel, by decide +kernel⟩, List.mem_of_getElem? (i := 687) (by decide +kernel), List.mem_of_getElem? (i := 1186) (by decide +kernel), List.mem_of_getElem? (i := 1187) (by decide +kernel)⟩
theorem lw_p67 : lw_okq (⟨"OptimaWorks$Worker", "allHold", "(II)Z"⟩, 20) := ⟨⟨by decide +kernel, by decide +kernel⟩, List.mem_of_getElem? (i := 687) (by decide +kernel), List.mem_of_getElem? (i := 1190) (by decide +kernel), List.mem_of_getElem? (i := 1191) (by decide +kernel)⟩
theorem lw_p68 : lw_okq (⟨"OptimaWorks$Worker", "oneHolds", "(II)Z"⟩, 20) := ⟨⟨by decide +kernel, by decide +kernel⟩, List.mem_of_getElem? (i := 687) (by decide +kernel), List.mem_of_getElem? (i := 1194) (by decide +kernel), List.mem_of_getElem? (i := 1195) (by decide +kernel)⟩
theorem lw_p69 : lw_okq (⟨"OptimaWorks$Worker", "compares", "(II)Z"⟩, 20) := ⟨⟨by decide +kernel, by decide +kernel⟩, List.mem_of_getElem? (i := 687) (by decide +kernel), List.mem_of_getElem? (i := 1198) (by decide +kernel), List.mem_of_getElem? (i := 1199) (by decide +kernel)⟩
theorem lw_p70 : lw_okq (⟨"OptimaWorks$Worker", "join", "(IZI)V"⟩, 20) := ⟨⟨by decide +kernel, by decide +kernel⟩, List.mem_of_getElem? (i := 687) (by decide +kernel), List.mem_of_getElem? (i := 1205) (by decide +kernel), List.mem_of_getElem? (i := 1206) (by decide +kernel)⟩
theorem lw_p71 : lw_okq (⟨"OptimaWorks$Worker", "setFraction", "(IJJI)V"⟩, 20) := ⟨⟨by decide +kernel, by decide +kernel⟩, List.mem_of_getElem? (i := 687) (by decide +kernel), List.mem_of_getElem? (i := 1209) (by decide +kernel), List.mem_of_getElem? (i := 1210) (by decide +kernel)⟩
theorem lw_p72 : lw_okq (⟨"OptimaWorks$Worker", "multiply", "(II)V"⟩, 20) := ⟨⟨by decide +kernel, by decide +kernel⟩, List.mem_of_getElem? (i := 687) (by decide +kernel), List.mem_of_getElem? (i := 1221) (by decide +kernel), List.mem_of_getElem? (i := 1222) (by decide +kernel)⟩
theorem lw_p73 : lw_okq (⟨"OptimaWorks$Worker", "hasVariables", "(I)Z"⟩, 20) := ⟨⟨by decide +kernel, by decide +kernel⟩, List.mem_of_getElem? (i := 687) (by decide +kernel), List.mem_of_getElem? (i := 1225) (by decide +kernel), List.mem_of_getElem? (i := 1226) (by decide +kernel)⟩
theorem lw_p74 : lw_okq (⟨"OptimaWorks$Worker", "divide", "(II)V"⟩, 20) := ⟨⟨by decide +kernel, by decide +kernel⟩, List.mem_of_getElem? (i := 687) (by decide +kernel), List.mem_of_getElem? (i := 1229) (by decide +kernel), List.mem_of_getElem? (i := 1230) (by decide +kernel)⟩
theorem lw_p75 : lw_okq (⟨"OptimaWorks$Reader", "readVar", "()V"⟩, 11) := ⟨⟨by decide +kernel, by decide +kernel⟩, List.mem_of_getElem? (i := 681) (by decide +kernel), List.mem_of_getElem? (i := 1233) (by decide +kernel), List.mem_of_getElem? (i := 1234) (by decide +kernel)⟩
theorem lw_p76 : lw_okq (⟨"OptimaWorks$Worker", "farEnd", "(I)I"⟩, 20) := ⟨⟨by decide +kernel, by decide +kernel⟩, List.mem_of_getElem? (i := 687) (by decide +kernel), List.mem_of_getElem? (i := 1241) (by decide +kernel), List.mem_of_getElem? (i := 1242) (by decide +kernel)⟩
theorem lw_p77 : lw_okq (⟨"OptimaWorks$Worker", "multiplyCases", "(I)V"⟩, 20) := ⟨⟨by decide +kernel, by decide +kernel⟩, List.mem_of_getElem? (i := 687) (by decide +kernel), List.mem_of_getElem? (i := 1247) (by decide +kernel), List.mem_of_getElem? (i := 1248) (by decide +kernel)⟩
theorem lw_p78 : lw_okq (⟨"OptimaWorks$Reader", "readRow", "()V"⟩, 11) := ⟨⟨by decide +kernel, by decide +kernel⟩, List.mem_of_getElem? (i := 681) (by decide +kernel), List.mem_of_getElem? (i := 1251) (by decide +kernel), List.mem_of_getElem? (i := 1252) (by decide +kernel)⟩
theorem lw_p79 : lw_okq (⟨"OptimaWorks$Worker", "keepWay", "(III)V"⟩, 20) := ⟨⟨by decide +kernel, by decide +kernel⟩, List.mem_of_getElem? (i := 687) (by decide +kernel), List.mem_of_getElem? (i := 1263) (by decide +kernel), List.mem_of_getElem? (i := 1264) (by decide +kernel)⟩
def lw_privs_5 : List (MethodName × Nat) := [(⟨"OptimaWorks$Worker", "boundMembers", "(I)I"⟩, 20), (⟨"OptimaWorks$Worker", "bind", "(II)V"⟩, 20), (⟨"OptimaWorks$Worker", "anyHolds", "(II)Z"⟩, 20), (⟨"OptimaWorks$Worker", "allHold", "(II)Z"⟩, 20), (⟨"OptimaWorks$Worker", "oneHolds", "(II)Z"⟩, 20), (⟨"OptimaWorks$Worker", "compares", "(II)Z"⟩, 20), (⟨"OptimaWorks$Worker", "join", "(IZI)V"⟩, 20), (⟨"OptimaWorks$Worker", "setFraction", "(IJJI)V"⟩, 20), (⟨"OptimaWorks$Worker", "multiply", "(II)V"⟩, 20), (⟨"OptimaWorks$Worker", "hasVariables", "(I)Z"⟩, 20), (⟨"OptimaWorks$Worker", "divide", "(II)V"⟩, 20), (⟨"OptimaWorks$Reader", "readVar", "()V"⟩, 11), (⟨"OptimaWorks$Worker", "farEnd", "(I)I"⟩, 20), (⟨"OptimaWorks$Worker", "multiplyCases", "(I)V"⟩, 20), (⟨"OptimaWorks$Reader", "readRow", "()V"⟩, 11), (⟨"OptimaWorks$Worker", "keepWay", "(III)V"⟩, 20)]
theorem lw_r5 : ∀ q ∈ lw_privs_5, lw_okq q := List.forall_mem_cons.mpr ⟨lw_p64, List.forall_mem_cons.mpr ⟨lw_p65, List.forall_mem_cons.mpr ⟨lw_p66, List.forall_mem_cons.mpr ⟨lw_p67, List.forall_mem_cons.mpr ⟨lw_p68, List.forall_mem_cons.mpr ⟨lw_p69, List.forall_mem_cons.mpr ⟨lw_p70, List.forall_mem_cons.mpr ⟨lw_p71, List.forall_mem_cons.mpr ⟨lw_p72, List.forall_mem_cons.mpr ⟨lw_p73, List.forall_mem_cons.mpr ⟨lw_p74, List.forall_mem_cons.mpr ⟨lw_p75, List.forall_mem_cons.mpr ⟨lw_p76, List.forall_mem_cons.mpr ⟨lw_p77, List.forall_mem_cons.mpr ⟨lw_p78, List.forall_mem_cons.mpr ⟨lw_p79, fun _ h => absurd h List.not_mem_nil⟩⟩⟩⟩⟩⟩⟩⟩⟩⟩⟩⟩⟩⟩⟩⟩
theorem lw_p80 : lw_okq (⟨"OptimaWorks$Worker", "leaveDifference", "(I)V"⟩, 20) := ⟨⟨by decide +kernel, by decide +kernel⟩, List.mem_of_getElem? (i := 687) (by decide +kernel), List.mem_of_getElem? (i := 1271) (by decide +kernel), List.mem_of_getElem? (i := 1272) (by decide +kernel)⟩
theorem lw_p81 : lw_okq (⟨"OptimaWorks$Worker", "scaled", "(IIII)I"⟩, 20) := ⟨⟨by decide +kernel, by decide +kernel⟩, List.mem_of_getElem? (i := 687) (by decide +kernel), List.mem_of_getElem? (i := 1275) (by decide +kernel), List.mem_of_getElem? (i := 1276) (by decide +kernel)⟩
theorem lw_p82 : lw_okq (⟨"OptimaWorks$Worker", "stretchWay", "(III)Z"⟩, 20) := ⟨⟨by decide +kernel, by decide +kernel⟩, List.mem_of_getElem? (i := 687) (by decide +kernel), List.mem_of_getElem? (i := 1283) (by decide +kernel), List.mem_of_getElem? (i := 1284) (by decide +kernel)⟩
theorem lw_p83 : lw_okq (⟨"OptimaWorks$Reader", "readDifferent", "()V"⟩, 11) := ⟨⟨by decide +kernel, by decide +kernel⟩, List.mem_of_getElem? (i := 681) (by decide +kernel), List.mem_of_getElem? (i := 1302) (by decide +kernel), List.mem_of_getElem? (i := 1303) (by decide +kernel)⟩
theorem lw_p84 : lw_okq (⟨"OptimaWorks$Reader", "takeWholeVar", "()I"⟩, 11) := ⟨⟨by decide +kernel, by decide +kernel⟩, List.mem_of_getElem? (i := 681) (by decide +kernel), List.mem_of_getElem? (i := 1306) (by decide +kernel), List.mem_of_getElem? (i := 1307) (by decide +kernel)⟩
theorem lw_p85 : lw_okq (⟨"OptimaWorks$Reader", "readGoal", "()V"⟩, 11) := ⟨⟨by decide +kernel, by decide +kernel⟩, List.mem_of_getElem? (i := 681) (by decide +kernel), List.mem_of_getElem? (i := 1310) (by decide +kernel), List.mem_of_getElem? (i := 1311) (by decide +kernel)⟩
theorem lw_p86 : lw_okq (⟨"OptimaWorks", "needModel", "()V"⟩, 11) := ⟨⟨by decide +kernel, by decide +kernel⟩, List.mem_of_getElem? (i := 31) (by decide +kernel), List.mem_of_getElem? (i := 1374) (by decide +kernel), List.mem_of_getElem? (i := 1375) (by decide +kernel)⟩
theorem lw_p87 : lw_okq (⟨"OptimaWorks", "putVariable", "(I)V"⟩, 11) := ⟨⟨by decide +kernel, by decide +kernel⟩, List.mem_of_getElem? (i := 31) (by decide +kernel), List.mem_of_getElem? (i := 1393) (by decide +kernel), List.mem_of_getElem? (i := 1394) (by decide +kernel)⟩
theorem lw_p88 : lw_okq (⟨"OptimaWorks", "putText", "(Ljava/lang/String;)V"⟩, 11) := ⟨⟨by decide +kernel, by decide +kernel⟩, List.mem_of_getElem? (i := 31) (by decide +kernel), List.mem_of_getElem? (i := 1398) (by decide +kernel), List.mem_of_getElem? (i := 1399) (by decide +kernel)⟩
theorem lw_p89 : lw_okq (⟨"OptimaWorks", "put", "(I)V"⟩, 11) := ⟨⟨by decide +kernel, by decide +kernel⟩, List.mem_of_getElem? (i := 31) (by decide +kernel), List.mem_of_getElem? (i := 1404) (by decide +kernel), List.mem_of_getElem? (i := 1405) (by decide +kernel)⟩
theorem lw_p90 : lw_okq (⟨"OptimaWorks", "putNumber", "(I)V"⟩, 11) := ⟨⟨by decide +kernel, by decide +kernel⟩, List.mem_of_getElem? (i := 31) (by decide +kernel), List.mem_of_getElem? (i := 1409) (by decide +kernel), List.mem_of_getElem? (i := 1410) (by decide +kernel)⟩
theorem lw_p91 : lw_okq (⟨"OptimaWorks", "turnRound", "(I)V"⟩, 11) := ⟨⟨by decide +kernel, by decide +kernel⟩, List.mem_of_getElem? (i := 31) (by decide +kernel), List.mem_of_getElem? (i := 1413) (by decide +kernel), List.mem_of_getElem? (i := 1414) (by decide +kernel)⟩
theorem lw_p92 : lw_okq (⟨"OptimaWorks", "putRow", "(I)V"⟩, 11) := ⟨⟨by decide +kernel, by decide +kernel⟩, List.mem_of_getElem? (i := 31) (by decide +kernel), List.mem_of_getElem? (i := 1421) (by decide +kernel), List.mem_of_getElem? (i := 1422) (by decide +kernel)⟩
theorem lw_p93 : lw_okq (⟨"OptimaWorks", "putWay", "(II)V"⟩, 11) := ⟨⟨by decide +kernel, by decide +kernel⟩, List.mem_of_getElem? (i := 31) (by decide +kernel), List.mem_of_getElem? (i := 1428) (by decide +kernel), List.mem_of_getElem? (i := 1429) (by decide +kernel)⟩
theorem lw_p94 : lw_okq (⟨"OptimaWorks", "putTimes", "(IIIZ)V"⟩, 11) := ⟨⟨by decide +kernel, by decide +kernel⟩, List.mem_of_getElem? (i := 31) (by decide +kernel), List.mem_of_getElem? (i := 1432) (by decide +kernel), List.mem_of_getElem? (i := 1433) (by decide +kernel)⟩
theorem lw_p95 : lw_okq (⟨"OptimaWorks", "putRatio", "(II)V"⟩, 11) := ⟨⟨by decide +kernel, by decide +kernel⟩, List.mem_of_getElem? (i := 31) (by decide +kernel), List.mem_of_getElem? (i := 1438) (by decide +kernel), List.mem_of_getElem? (i := 1439) (by decide +kernel)⟩
def lw_privs_6 : List (MethodName × Nat) := [(⟨"OptimaWorks$Worker", "leaveDifference", "(I)V"⟩, 20), (⟨"OptimaWorks$Worker", "scaled", "(IIII)I"⟩, 20), (⟨"OptimaWorks$Worker", "stretchWay", "(III)Z"⟩, 20), (⟨"OptimaWorks$Reader", "readDifferent", "()V"⟩, 11), (⟨"OptimaWorks$Reader", "takeWholeVar", "()I"⟩, 11), (⟨"OptimaWorks$Reader", "readGoal", "()V"⟩, 11), (⟨"OptimaWorks", "needModel", "()V"⟩, 11), (⟨"OptimaWorks", "putVariable", "(I)V"⟩, 11), (⟨"OptimaWorks", "putText", "(Ljava/lang/String;)V"⟩, 11), (⟨"OptimaWorks", "put", "(I)V"⟩, 11), (⟨"OptimaWorks", "putNumber", "(I)V"⟩, 11), (⟨"OptimaWorks", "turnRound", "(I)V"⟩, 11), (⟨"OptimaWorks", "putRow", "(I)V"⟩, 11), (⟨"OptimaWorks", "putWay", "(II)V"⟩, 11), (⟨"OptimaWorks", "putTimes", "(IIIZ)V"⟩, 11), (⟨"OptimaWorks", "putRatio", "(II)V"⟩, 11)]
theorem lw_r6 : ∀ q ∈ lw_privs_6, lw_okq q := List.forall_mem_cons.mpr ⟨lw_p80, List.forall_mem_cons.mpr ⟨lw_p81, List.forall_mem_cons.mpr ⟨lw_p82, List.forall_mem_cons.mpr ⟨lw_p83, List.forall_mem_cons.mpr ⟨lw_p84, List.forall_mem_cons.mpr ⟨lw_p85, List.forall_mem_cons.mpr ⟨lw_p86, List.forall_mem_cons.mpr ⟨lw_p87, List.forall_mem_cons.mpr ⟨lw_p88, List.forall_mem_cons.mpr ⟨lw_p89, List.forall_mem_cons.mpr ⟨lw_p90, List.forall_mem_cons.mpr ⟨lw_p91, List.forall_mem_cons.mpr ⟨lw_p92, List.forall_mem_cons.mpr ⟨lw_p93, List.forall_mem_cons.mpr ⟨lw_p94, List.forall_mem_cons.mpr ⟨lw_p95, fun _ h => absurd h List.not_mem_nil⟩⟩⟩⟩⟩⟩⟩⟩⟩⟩⟩⟩⟩⟩⟩⟩
theorem lw_p96 : lw_okq (⟨"OptimaWorks", "putDifferent", "(I)V"⟩, 11) := ⟨⟨by decide +kernel, by decide +kernel⟩, List.mem_of_getElem? (i := 31) (by decide +kernel), List.mem_of_getElem? (i := 1448) (by decide +kernel), List.mem_of_getElem? (i := 1449) (by decide +kernel)⟩
theorem lw_p97 : lw_okq (⟨"OptimaWorks", "putGoal", "(I)V"⟩, 11) := ⟨⟨by decide +kernel, by decide +kernel⟩, List.mem_of_getElem? (i := 31) (by decide +kernel), List.mem_of_getElem? (i := 1454) (by decide +kernel), List.mem_of_getElem? (i := 1455) (by decide +kernel)⟩
theorem lw_p98 : lw_okq (⟨"OptimaWorks", "theSolver", "()LOptimaWorks$Solver;"⟩, 11) := ⟨⟨by decide +kernel, by decide +kernel⟩, List.mem_of_getElem? (i := 31) (by decide +kernel), List.mem_of_getElem? (i := 1469) (by decide +kernel), List.mem_of_getElem? (i := 1470) (by decide +kernel)⟩
theorem lw_p99 : lw_okq (⟨"OptimaWorks$Solver", "choose", "(I)Z"⟩, 19) := ⟨⟨by decide +kernel, by decide +kernel⟩, List.mem_of_getElem? (i := 1473) (by decide +kernel), List.mem_of_getElem? (i := 1629) (by decide +kernel), List.mem_of_getElem? (i := 1630) (by decide +kernel)⟩
theorem lw_p100 : lw_okq (⟨"OptimaWorks$Solver", "allDiffer", "()Z"⟩, 19) := ⟨⟨by decide +kernel, by decide +kernel⟩, List.mem_of_getElem? (i := 1473) (by decide +kernel), List.mem_of_getElem? (i := 1638) (by decide +kernel), List.mem_of_getElem? (i := 1639) (by decide +kernel)⟩
theorem lw_p101 : lw_okq (⟨"OptimaWorks$Solver", "differ", "(I)Z"⟩, 19) := ⟨⟨by decide +kernel, by decide +kernel⟩, List.mem_of_getElem? (i := 1473) (by decide +kernel), List.mem_of_getElem? (i := 1642) (by decide +kernel), List.mem_of_getElem? (i := 1643) (by decide +kernel)⟩
theorem lw_p102 : lw_okq (⟨"OptimaWorks$Solver", "layWay", "(III)Z"⟩, 19) := ⟨⟨by decide +kernel, by decide +kernel⟩, List.mem_of_getElem? (i := 1473) (by decide +kernel), List.mem_of_getElem? (i := 1660) (by decide +kernel), List.mem_of_getElem? (i := 1661) (by decide +kernel)⟩
theorem lw_p103 : lw_okq (⟨"OptimaWorks$Solver", "layGoal", "(II)V"⟩, 19) := ⟨⟨by decide +kernel, by decide +kernel⟩, List.mem_of_getElem? (i := 1473) (by decide +kernel), List.mem_of_getElem? (i := 1674) (by decide +kernel), List.mem_of_getElem? (i := 1675) (by decide +kernel)⟩
theorem lw_p104 : lw_okq (⟨"OptimaWorks$Whole", "trim", "()V"⟩, 3) := ⟨⟨by decide +kernel, by decide +kernel⟩, List.mem_of_getElem? (i := 1486) (by decide +kernel), List.mem_of_getElem? (i := 1691) (by decide +kernel), List.mem_of_getElem? (i := 1692) (by decide +kernel)⟩
theorem lw_p105 : lw_okq (⟨"OptimaWorks$Whole", "addSize", "(LOptimaWorks$Whole;)V"⟩, 3) := ⟨⟨by decide +kernel, by decide +kernel⟩, List.mem_of_getElem? (i := 1486) (by decide +kernel), List.mem_of_getElem? (i := 1699) (by decide +kernel), List.mem_of_getElem? (i := 1700) (by decide +kernel)⟩
theorem lw_p106 : lw_okq (⟨"OptimaWorks$Whole", "takeSize", "(LOptimaWorks$Whole;LOptimaWorks$Whole;)V"⟩, 3) := ⟨⟨by decide +kernel, by decide +kernel⟩, List.mem_of_getElem? (i := 1486) (by decide +kernel), List.mem_of_getElem? (i := 1708) (by decide +kernel), List.mem_of_getElem? (i := 1709) (by decide +kernel)⟩
theorem lw_p107 : lw_okq (⟨"OptimaWorks$Tableau", "columnWith", "(I)I"⟩, 13) := ⟨⟨by decide +kernel, by decide +kernel⟩, List.mem_of_getElem? (i := 1479) (by decide +kernel), List.mem_of_getElem? (i := 1720) (by decide +kernel), List.mem_of_getElem? (i := 1721) (by decide +kernel)⟩
theorem lw_p108 : lw_okq (⟨"OptimaWorks$Tableau", "exchange", "(II)V"⟩, 13) := ⟨⟨by decide +kernel, by decide +kernel⟩, List.mem_of_getElem? (i := 1479) (by decide +kernel), List.mem_of_getElem? (i := 1725) (by decide +kernel), List.mem_of_getElem? (i := 1726) (by decide +kernel)⟩
theorem lw_p109 : lw_okq (⟨"OptimaWorks$Tableau", "changeCell", "(LOptimaWorks$Whole;LOptimaWorks$Whole;LOptimaWorks$Whole;Z)V"⟩, 13) := ⟨⟨by decide +kernel, by decide +kernel⟩, List.mem_of_getElem? (i := 1479) (by decide +kernel), List.mem_of_getElem? (i := 1735) (by decide +kernel), List.mem_of_getElem? (i := 1736) (by decide +kernel)⟩
theorem lw_p110 : lw_okq (⟨"OptimaWorks$Whole", "setShifted", "(LOptimaWorks$Whole;I)V"⟩, 3) := ⟨⟨by decide +kernel, by decide +kernel⟩, List.mem_of_getElem? (i := 1486) (by decide +kernel), List.mem_of_getElem? (i := 1764) (by decide +kernel), List.mem_of_getElem? (i := 1765) (by decide +kernel)⟩
theorem lw_p111 : lw_okq (⟨"OptimaWorks$Whole", "takeTimes", "(LOptimaWorks$Whole;II)J"⟩, 3) := ⟨⟨by decide +kernel, by decide +kernel⟩, List.mem_of_getElem? (i := 1486) (by decide +kernel), List.mem_of_getElem? (i := 1768) (by decide +kernel), List.mem_of_getElem? (i := 1769) (by decide +kernel)⟩
def lw_privs_7 : List (MethodName × Nat) := [(⟨"OptimaWorks", "putDifferent", "(I)V"⟩, 11), (⟨"OptimaWorks", "putGoal", "(I)V"⟩, 11), (⟨"OptimaWorks", "theSolver", "()LOptimaWorks$Solver;"⟩, 11), (⟨"OptimaWorks$Solver", "choose", "(I)Z"⟩, 19), (⟨"OptimaWorks$Solver", "allDiffer", "()Z"⟩, 19), (⟨"OptimaWorks$Solver", "differ", "(I)Z"⟩, 19), (⟨"OptimaWorks$Solver", "layWay", "(III)Z"⟩, 19), (⟨"OptimaWorks$Solver", "layGoal", "(II)V"⟩, 19), (⟨"OptimaWorks$Whole", "trim", "()V"⟩, 3), (⟨"OptimaWorks$Whole", "addSize", "(LOptimaWorks$Whole;)V"⟩, 3), (⟨"OptimaWorks$Whole", "takeSize", "(LOptimaWorks$Whole;LOptimaWorks$Whole;)V"⟩, 3), (⟨"OptimaWorks$Tableau", "columnWith", "(I)I"⟩, 13), (⟨"OptimaWorks$Tableau", "exchange", "(II)V"⟩, 13), (⟨"OptimaWorks$Tableau", "changeCell", "(LOptimaWorks$Whole;LOptimaWorks$Whole;LOptimaWorks$Whole;Z)V"⟩, 13), (⟨"OptimaWorks$Whole", "setShifted", "(LOptimaWorks$Whole;I)V"⟩, 3), (⟨"OptimaWorks$Whole", "takeTimes", "(LOptimaWorks$Whole;II)J"⟩, 3)]
theorem lw_r7 : ∀ q ∈ lw_privs_7, lw_okq q := List.forall_mem_cons.mpr ⟨lw_p96, List.forall_mem_cons.mpr ⟨lw_p97, List.forall_mem_cons.mpr ⟨lw_p98, List.forall_mem_cons.mpr ⟨lw_p99, List.forall_mem_cons.mpr ⟨lw_p100, List.forall_mem_cons.mpr ⟨lw_p101, List.forall_mem_cons.mpr ⟨lw_p102, List.forall_mem_cons.mpr ⟨lw_p103, List.forall_mem_cons.mpr ⟨lw_p104, List.forall_mem_cons.mpr ⟨lw_p105, List.forall_mem_cons.mpr ⟨lw_p106, List.forall_mem_cons.mpr ⟨lw_p107, List.forall_mem_cons.mpr ⟨lw_p108, List.forall_mem_cons.mpr ⟨lw_p109, List.forall_mem_cons.mpr ⟨lw_p110, List.forall_mem_cons.mpr ⟨lw_p111, fun _ h => absurd h List.not_mem_nil⟩⟩⟩⟩⟩⟩⟩⟩⟩⟩⟩⟩⟩⟩⟩⟩
theorem lw_p112 : lw_okq (⟨"OptimaWorks$Whole", "shiftBack", "(I)V"⟩, 3) := ⟨⟨by decide +kernel, by decide +kernel⟩, List.mem_of_getElem? (i := 1486) (by decide +kernel), List.mem_of_getElem? (i := 1772) (by decide +kernel), List.mem_of_getElem? (i := 1773) (by decide +kernel)⟩
theorem lw_p113 : lw_okq (⟨"OptimaWorks$Tableau", "rowBelow", "(Z)I"⟩, 13) := ⟨⟨by decide +kernel, by decide +kernel⟩, List.mem_of_getElem? (i := 1479) (by decide +kernel), List.mem_of_getElem? (i := 1781) (by decide +kernel), List.mem_of_getElem? (i := 1782) (by decide +kernel)⟩
theorem lw_p114 : lw_okq (⟨"OptimaWorks$Tableau", "columnOfSign", "(IIZ)I"⟩, 13) := ⟨⟨by decide +kernel, by decide +kernel⟩, List.mem_of_getElem? (i := 1479) (by decide +kernel), List.mem_of_getElem? (i := 1789) (by decide +kernel), List.mem_of_getElem? (i := 1790) (by decide +kernel)⟩
theorem lw_p115 : lw_okq (⟨"OptimaWorks$Solver", "tryAnswer", "()V"⟩, 19) := ⟨⟨by decide +kernel, by decide +kernel⟩, List.mem_of_getElem? (i := 1473) (by decide +kernel), List.mem_of_getElem? (i := 1793) (by decide +kernel), List.mem_of_getElem? (i := 1794) (by decide +kernel)⟩
theorem lw_p116 : lw_okq (⟨"OptimaWorks$Solver", "goalRow", "(I)I"⟩, 19) := ⟨⟨by decide +kernel, by decide +kernel⟩, List.mem_of_getElem? (i := 1473) (by decide +kernel), List.mem_of_getElem? (i := 1797) (by decide +kernel), List.mem_of_getElem? (i := 1798) (by decide +kernel)⟩
theorem lw_p117 : lw_okq (⟨"OptimaWorks$Tableau", "tightest", "(I)I"⟩, 13) := ⟨⟨by decide +kernel, by decide +kernel⟩, List.mem_of_getElem? (i := 1479) (by decide +kernel), List.mem_of_getElem? (i := 1809) (by decide +kernel), List.mem_of_getElem? (i := 1810) (by decide +kernel)⟩
theorem lw_p118 : lw_okq (⟨"OptimaWorks$Tableau", "compareRoom", "(III)I"⟩, 13) := ⟨⟨by decide +kernel, by decide +kernel⟩, List.mem_of_getElem? (i := 1479) (by decide +kernel), List.mem_of_getElem? (i := 1813) (by decide +kernel), List.mem_of_getElem? (i := 1814) (by decide +kernel)⟩
theorem lw_p119 : lw_okq (⟨"OptimaWorks$Tableau", "shutWith", "(I)V"⟩, 13) := ⟨⟨by decide +kernel, by decide +kernel⟩, List.mem_of_getElem? (i := 1479) (by decide +kernel), List.mem_of_getElem? (i := 1817) (by decide +kernel), List.mem_of_getElem? (i := 1818) (by decide +kernel)⟩
theorem lw_p120 : lw_okq (⟨"OptimaWorks$Solver", "compare", "(LOptimaWorks$Whole;LOptimaWorks$Whole;)I"⟩, 19) := ⟨⟨by decide +kernel, by decide +kernel⟩, List.mem_of_getElem? (i := 1473) (by decide +kernel), List.mem_of_getElem? (i := 1821) (by decide +kernel), List.mem_of_getElem? (i := 1822) (by decide +kernel)⟩
theorem lw_p121 : lw_okq (⟨"OptimaWorks$Tableau", "shutOutside", "(I)V"⟩, 13) := ⟨⟨by decide +kernel, by decide +kernel⟩, List.mem_of_getElem? (i := 1479) (by decide +kernel), List.mem_of_getElem? (i := 1839) (by decide +kernel), List.mem_of_getElem? (i := 1840) (by decide +kernel)⟩
theorem lw_p122 : lw_okq (⟨"OptimaWorks$Tableau", "columnOf", "(I)I"⟩, 13) := ⟨⟨by decide +kernel, by decide +kernel⟩, List.mem_of_getElem? (i := 1479) (by decide +kernel), List.mem_of_getElem? (i := 1843) (by decide +kernel), List.mem_of_getElem? (i := 1844) (by decide +kernel)⟩
theorem lw_p123 : lw_okq (⟨"OptimaWorks$Solver", "keepAnswer", "()V"⟩, 19) := ⟨⟨by decide +kernel, by decide +kernel⟩, List.mem_of_getElem? (i := 1473) (by decide +kernel), List.mem_of_getElem? (i := 1852) (by decide +kernel), List.mem_of_getElem? (i := 1853) (by decide +kernel)⟩
theorem lw_p124 : lw_okq (⟨"OptimaWorks", "needAnswer", "(II)V"⟩, 11) := ⟨⟨by decide +kernel, by decide +kernel⟩, List.mem_of_getElem? (i := 31) (by decide +kernel), List.mem_of_getElem? (i := 1864) (by decide +kernel), List.mem_of_getElem? (i := 1865) (by decide +kernel)⟩
theorem lw_p125 : lw_okq (⟨"OptimaWorks", "putTold", "()I"⟩, 11) := ⟨⟨by decide +kernel, by decide +kernel⟩, List.mem_of_getElem? (i := 31) (by decide +kernel), List.mem_of_getElem? (i := 1872) (by decide +kernel), List.mem_of_getElem? (i := 1873) (by decide +kernel)⟩
theorem lw_p126 : lw_okq (⟨"OptimaWorks", "putWhole", "(LOptimaWorks$Whole;)V"⟩, 11) := ⟨⟨by decide +kernel, by decide +kernel⟩, List.mem_of_getElem? (i := 31) (by decide +kernel), List.mem_of_getElem? (i := 1885) (by decide +kernel), List.mem_of_getElem? (i := 1886) (by decide +kernel)⟩
theorem lw_p127 : lw_okq (⟨"OptimaWorks$Prover", "findBest", "()V"⟩, 17) := ⟨⟨by decide +kernel, by decide +kernel⟩, List.mem_of_getElem? (i := 1947) (by decide +kernel), List.mem_of_getElem? (i := 2018) (by decide +kernel), List.mem_of_getElem? (i := 2019) (by decide +kernel)⟩
def lw_privs_8 : List (MethodName × Nat) := [(⟨"OptimaWorks$Whole", "shiftBack", "(I)V"⟩, 3), (⟨"OptimaWorks$Tableau", "rowBelow", "(Z)I"⟩, 13), (⟨"OptimaWorks$Tableau", "columnOfSign", "(IIZ)I"⟩, 13), (⟨"OptimaWorks$Solver", "tryAnswer", "()V"⟩, 19), (⟨"OptimaWorks$Solver", "goalRow", "(I)I"⟩, 19), (⟨"OptimaWorks$Tableau", "tightest", "(I)I"⟩, 13), (⟨"OptimaWorks$Tableau", "compareRoom", "(III)I"⟩, 13), (⟨"OptimaWorks$Tableau", "shutWith", "(I)V"⟩, 13), (⟨"OptimaWorks$Solver", "compare", "(LOptimaWorks$Whole;LOptimaWorks$Whole;)I"⟩, 19), (⟨"OptimaWorks$Tableau", "shutOutside", "(I)V"⟩, 13), (⟨"OptimaWorks$Tableau", "columnOf", "(I)I"⟩, 13), (⟨"OptimaWorks$Solver", "keepAnswer", "()V"⟩, 19), (⟨"OptimaWorks", "needAnswer", "(II)V"⟩, 11), (⟨"OptimaWorks", "putTold", "()I"⟩, 11), (⟨"OptimaWorks", "putWhole", "(LOptimaWorks$Whole;)V"⟩, 11), (⟨"OptimaWorks$Prover", "findBest", "()V"⟩, 17)]
theorem lw_r8 : ∀ q ∈ lw_privs_8, lw_okq q := List.forall_mem_cons.mpr ⟨lw_p112, List.forall_mem_cons.mpr ⟨lw_p113, List.forall_mem_cons.mpr ⟨lw_p114, List.forall_mem_cons.mpr ⟨lw_p115, List.forall_mem_cons.mpr ⟨lw_p116, List.forall_mem_cons.mpr ⟨lw_p117, List.forall_mem_cons.mpr ⟨lw_p118, List.forall_mem_cons.mpr ⟨lw_p119, List.forall_mem_cons.mpr ⟨lw_p120, List.forall_mem_cons.mpr ⟨lw_p121, List.forall_mem_cons.mpr ⟨lw_p122, List.forall_mem_cons.mpr ⟨lw_p123, List.forall_mem_cons.mpr ⟨lw_p124, List.forall_mem_cons.mpr ⟨lw_p125, List.forall_mem_cons.mpr ⟨lw_p126, List.forall_mem_cons.mpr ⟨lw_p127, fun _ h => absurd h List.not_mem_nil⟩⟩⟩⟩⟩⟩⟩⟩⟩⟩⟩⟩⟩⟩⟩⟩
theorem lw_p128 : lw_okq (⟨"OptimaWorks$Prover", "chooseColumns", "(Z)V"⟩, 17) := ⟨⟨by decide +kernel, by decide +kernel⟩, List.mem_of_getElem? (i := 1947) (by decide +kernel), List.mem_of_getElem? (i := 2034) (by decide +kernel), List.mem_of_getElem? (i := 2035) (by decide +kernel)⟩
theorem lw_p129 : lw_okq (⟨"OptimaWorks$Prover", "isTight", "(IIZ)Z"⟩, 17) := ⟨⟨by decide +kernel, by decide +kernel⟩, List.mem_of_getElem? (i := 1947) (by decide +kernel), List.mem_of_getElem? (i := 2046) (by decide +kernel), List.mem_of_getElem? (i := 2047) (by decide +kernel)⟩
theorem lw_p130 : lw_okq (⟨"OptimaWorks$Model", "isTurned", "(I)Z"⟩, 17) := ⟨⟨by decide +kernel, by decide +kernel⟩, List.mem_of_getElem? (i := 83) (by decide +kernel), List.mem_of_getElem? (i := 2055) (by decide +kernel), List.mem_of_getElem? (i := 2056) (by decide +kernel)⟩
theorem lw_p131 : lw_okq (⟨"OptimaWorks$Prover", "layMultipliers", "(Z)V"⟩, 17) := ⟨⟨by decide +kernel, by decide +kernel⟩, List.mem_of_getElem? (i := 1947) (by decide +kernel), List.mem_of_getElem? (i := 2066) (by decide +kernel), List.mem_of_getElem? (i := 2067) (by decide +kernel)⟩
theorem lw_p132 : lw_okq (⟨"OptimaWorks$Prover", "findShortfall", "()V"⟩, 17) := ⟨⟨by decide +kernel, by decide +kernel⟩, List.mem_of_getElem? (i := 1947) (by decide +kernel), List.mem_of_getElem? (i := 2075) (by decide +kernel), List.mem_of_getElem? (i := 2076) (by decide +kernel)⟩
theorem lw_p133 : lw_okq (⟨"OptimaWorks$Prover", "layNeed", "(III)V"⟩, 17) := ⟨⟨by decide +kernel, by decide +kernel⟩, List.mem_of_getElem? (i := 1947) (by decide +kernel), List.mem_of_getElem? (i := 2080) (by decide +kernel), List.mem_of_getElem? (i := 2081) (by decide +kernel)⟩
theorem lw_p134 : lw_okq (⟨"OptimaWorks$Prover", "takeColumn", "(LOptimaWorks$Whole;I)V"⟩, 17) := ⟨⟨by decide +kernel, by decide +kernel⟩, List.mem_of_getElem? (i := 1947) (by decide +kernel), List.mem_of_getElem? (i := 2085) (by decide +kernel), List.mem_of_getElem? (i := 2086) (by decide +kernel)⟩
theorem lw_p135 : lw_okq (⟨"OptimaWorks$Prover", "canSink", "(I)Z"⟩, 17) := ⟨⟨by decide +kernel, by decide +kernel⟩, List.mem_of_getElem? (i := 1947) (by decide +kernel), List.mem_of_getElem? (i := 2090) (by decide +kernel), List.mem_of_getElem? (i := 2091) (by decide +kernel)⟩
theorem lw_p136 : lw_okq (⟨"OptimaWorks$Prover", "dropNeed", "(I)V"⟩, 17) := ⟨⟨by decide +kernel, by decide +kernel⟩, List.mem_of_getElem? (i := 1947) (by decide +kernel), List.mem_of_getElem? (i := 2094) (by decide +kernel), List.mem_of_getElem? (i := 2095) (by decide +kernel)⟩
theorem lw_p137 : lw_okq (⟨"OptimaWorks$Prover", "takeMultipliers", "()V"⟩, 17) := ⟨⟨by decide +kernel, by decide +kernel⟩, List.mem_of_getElem? (i := 1947) (by decide +kernel), List.mem_of_getElem? (i := 2106) (by decide +kernel), List.mem_of_getElem? (i := 2107) (by decide +kernel)⟩
theorem lw_p138 : lw_okq (⟨"OptimaWorks$ValueDesk", "isSet", "(I)Z"⟩, 20) := ⟨⟨by decide +kernel, by decide +kernel⟩, List.mem_of_getElem? (i := 295) (by decide +kernel), List.mem_of_getElem? (i := 2148) (by decide +kernel), List.mem_of_getElem? (i := 2149) (by decide +kernel)⟩
theorem lw_p139 : lw_okq (⟨"OptimaWorks$NetDesk", "reach", "(II)Z"⟩, 14) := ⟨⟨by decide +kernel, by decide +kernel⟩, List.mem_of_getElem? (i := 593) (by decide +kernel), List.mem_of_getElem? (i := 2200) (by decide +kernel), List.mem_of_getElem? (i := 2201) (by decide +kernel)⟩
theorem lw_p140 : lw_okq (⟨"OptimaWorks$NetDesk", "measure", "(I)V"⟩, 14) := ⟨⟨by decide +kernel, by decide +kernel⟩, List.mem_of_getElem? (i := 593) (by decide +kernel), List.mem_of_getElem? (i := 2224) (by decide +kernel), List.mem_of_getElem? (i := 2225) (by decide +kernel)⟩
theorem lw_p141 : lw_okq (⟨"OptimaWorks$NetDesk", "push", "(III)I"⟩, 14) := ⟨⟨by decide +kernel, by decide +kernel⟩, List.mem_of_getElem? (i := 593) (by decide +kernel), List.mem_of_getElem? (i := 2228) (by decide +kernel), List.mem_of_getElem? (i := 2229) (by decide +kernel)⟩
theorem lw_p142 : lw_okq (⟨"OptimaWorks$NetDesk", "measureBack", "(I)V"⟩, 14) := ⟨⟨by decide +kernel, by decide +kernel⟩, List.mem_of_getElem? (i := 593) (by decide +kernel), List.mem_of_getElem? (i := 2243) (by decide +kernel), List.mem_of_getElem? (i := 2244) (by decide +kernel)⟩
theorem lw_p143 : lw_okq (⟨"OptimaWorks$NetDesk", "nextNode", "(I)I"⟩, 14) := ⟨⟨by decide +kernel, by decide +kernel⟩, List.mem_of_getElem? (i := 593) (by decide +kernel), List.mem_of_getElem? (i := 2247) (by decide +kernel), List.mem_of_getElem? (i := 2248) (by decide +kernel)⟩
def lw_privs_9 : List (MethodName × Nat) := [(⟨"OptimaWorks$Prover", "chooseColumns", "(Z)V"⟩, 17), (⟨"OptimaWorks$Prover", "isTight", "(IIZ)Z"⟩, 17), (⟨"OptimaWorks$Model", "isTurned", "(I)Z"⟩, 17), (⟨"OptimaWorks$Prover", "layMultipliers", "(Z)V"⟩, 17), (⟨"OptimaWorks$Prover", "findShortfall", "()V"⟩, 17), (⟨"OptimaWorks$Prover", "layNeed", "(III)V"⟩, 17), (⟨"OptimaWorks$Prover", "takeColumn", "(LOptimaWorks$Whole;I)V"⟩, 17), (⟨"OptimaWorks$Prover", "canSink", "(I)Z"⟩, 17), (⟨"OptimaWorks$Prover", "dropNeed", "(I)V"⟩, 17), (⟨"OptimaWorks$Prover", "takeMultipliers", "()V"⟩, 17), (⟨"OptimaWorks$ValueDesk", "isSet", "(I)Z"⟩, 20), (⟨"OptimaWorks$NetDesk", "reach", "(II)Z"⟩, 14), (⟨"OptimaWorks$NetDesk", "measure", "(I)V"⟩, 14), (⟨"OptimaWorks$NetDesk", "push", "(III)I"⟩, 14), (⟨"OptimaWorks$NetDesk", "measureBack", "(I)V"⟩, 14), (⟨"OptimaWorks$NetDesk", "nextNode", "(I)I"⟩, 14)]
theorem lw_r9 : ∀ q ∈ lw_privs_9, lw_okq q := List.forall_mem_cons.mpr ⟨lw_p128, List.forall_mem_cons.mpr ⟨lw_p129, List.forall_mem_cons.mpr ⟨lw_p130, List.forall_mem_cons.mpr ⟨lw_p131, List.forall_mem_cons.mpr ⟨lw_p132, List.forall_mem_cons.mpr ⟨lw_p133, List.forall_mem_cons.mpr ⟨lw_p134, List.forall_mem_cons.mpr ⟨lw_p135, List.forall_mem_cons.mpr ⟨lw_p136, List.forall_mem_cons.mpr ⟨lw_p137, List.forall_mem_cons.mpr ⟨lw_p138, List.forall_mem_cons.mpr ⟨lw_p139, List.forall_mem_cons.mpr ⟨lw_p140, List.forall_mem_cons.mpr ⟨lw_p141, List.forall_mem_cons.mpr ⟨lw_p142, List.forall_mem_cons.mpr ⟨lw_p143, fun _ h => absurd h List.not_mem_nil⟩⟩⟩⟩⟩⟩⟩⟩⟩⟩⟩⟩⟩⟩⟩⟩
theorem lw_p144 : lw_okq (⟨"OptimaWorks$NetDesk", "takeStops", "(I)V"⟩, 14) := ⟨⟨by decide +kernel, by decide +kernel⟩, List.mem_of_getElem? (i := 593) (by decide +kernel), List.mem_of_getElem? (i := 2263) (by decide +kernel), List.mem_of_getElem? (i := 2264) (by decide +kernel)⟩
theorem lw_p145 : lw_okq (⟨"OptimaWorks$NetDesk", "takePrices", "()V"⟩, 14) := ⟨⟨by decide +kernel, by decide +kernel⟩, List.mem_of_getElem? (i := 593) (by decide +kernel), List.mem_of_getElem? (i := 2267) (by decide +kernel), List.mem_of_getElem? (i := 2268) (by decide +kernel)⟩
theorem lw_p146 : lw_okq (⟨"OptimaWorks$NetDesk", "restFrom", "(II)I"⟩, 14) := ⟨⟨by decide +kernel, by decide +kernel⟩, List.mem_of_getElem? (i := 593) (by decide +kernel), List.mem_of_getElem? (i := 2271) (by decide +kernel), List.mem_of_getElem? (i := 2272) (by decide +kernel)⟩
theorem lw_p147 : lw_okq (⟨"OptimaWorks$NetDesk", "costOver", "(III)I"⟩, 14) := ⟨⟨by decide +kernel, by decide +kernel⟩, List.mem_of_getElem? (i := 593) (by decide +kernel), List.mem_of_getElem? (i := 2275) (by decide +kernel), List.mem_of_getElem? (i := 2276) (by decide +kernel)⟩
theorem lw_p148 : lw_okq (⟨"OptimaWorks$NetDesk", "nextStop", "(II)I"⟩, 14) := ⟨⟨by decide +kernel, by decide +kernel⟩, List.mem_of_getElem? (i := 593) (by decide +kernel), List.mem_of_getElem? (i := 2279) (by decide +kernel), List.mem_of_getElem? (i := 2280) (by decide +kernel)⟩
theorem lw_p149 : lw_okq (⟨"OptimaWorksModel", "next", "()V"⟩, 163) := ⟨⟨by decide +kernel, by decide +kernel⟩, List.mem_of_getElem? (i := 2283) (by decide +kernel), List.mem_of_getElem? (i := 2788) (by decide +kernel), List.mem_of_getElem? (i := 2789) (by decide +kernel)⟩
theorem lw_p150 : lw_okq (⟨"OptimaWorksModel", "byteAt", "(I)I"⟩, 163) := ⟨⟨by decide +kernel, by decide +kernel⟩, List.mem_of_getElem? (i := 2283) (by decide +kernel), List.mem_of_getElem? (i := 2792) (by decide +kernel), List.mem_of_getElem? (i := 2793) (by decide +kernel)⟩
theorem lw_p151 : lw_okq (⟨"OptimaWorksModel", "takeName", "()V"⟩, 163) := ⟨⟨by decide +kernel, by decide +kernel⟩, List.mem_of_getElem? (i := 2283) (by decide +kernel), List.mem_of_getElem? (i := 2799) (by decide +kernel), List.mem_of_getElem? (i := 2800) (by decide +kernel)⟩
theorem lw_p152 : lw_okq (⟨"OptimaWorksModel", "key", "(II)I"⟩, 163) := ⟨⟨by decide +kernel, by decide +kernel⟩, List.mem_of_getElem? (i := 2283) (by decide +kernel), List.mem_of_getElem? (i := 2806) (by decide +kernel), List.mem_of_getElem? (i := 2807) (by decide +kernel)⟩
theorem lw_p153 : lw_okq (⟨"OptimaWorksModel", "takeNumber", "()V"⟩, 163) := ⟨⟨by decide +kernel, by decide +kernel⟩, List.mem_of_getElem? (i := 2283) (by decide +kernel), List.mem_of_getElem? (i := 2815) (by decide +kernel), List.mem_of_getElem? (i := 2816) (by decide +kernel)⟩
theorem lw_p154 : lw_okq (⟨"OptimaWorksModel", "takeSign", "(I)V"⟩, 163) := ⟨⟨by decide +kernel, by decide +kernel⟩, List.mem_of_getElem? (i := 2283) (by decide +kernel), List.mem_of_getElem? (i := 2819) (by decide +kernel), List.mem_of_getElem? (i := 2820) (by decide +kernel)⟩
theorem lw_p155 : lw_okq (⟨"OptimaWorksModel", "readDeclaration", "()V"⟩, 163) := ⟨⟨by decide +kernel, by decide +kernel⟩, List.mem_of_getElem? (i := 2283) (by decide +kernel), List.mem_of_getElem? (i := 2823) (by decide +kernel), List.mem_of_getElem? (i := 2824) (by decide +kernel)⟩
theorem lw_p156 : lw_okq (⟨"OptimaWorksModel", "fresh", "()V"⟩, 163) := ⟨⟨by decide +kernel, by decide +kernel⟩, List.mem_of_getElem? (i := 2283) (by decide +kernel), List.mem_of_getElem? (i := 2827) (by decide +kernel), List.mem_of_getElem? (i := 2828) (by decide +kernel)⟩
theorem lw_p157 : lw_okq (⟨"OptimaWorksModel", "isKey", "(I)Z"⟩, 163) := ⟨⟨by decide +kernel, by decide +kernel⟩, List.mem_of_getElem? (i := 2283) (by decide +kernel), List.mem_of_getElem? (i := 2831) (by decide +kernel), List.mem_of_getElem? (i := 2832) (by decide +kernel)⟩
theorem lw_p158 : lw_okq (⟨"OptimaWorksModel", "readSetOf", "()V"⟩, 163) := ⟨⟨by decide +kernel, by decide +kernel⟩, List.mem_of_getElem? (i := 2283) (by decide +kernel), List.mem_of_getElem? (i := 2835) (by decide +kernel), List.mem_of_getElem? (i := 2836) (by decide +kernel)⟩
theorem lw_p159 : lw_okq (⟨"OptimaWorksModel", "readOwn", "()V"⟩, 163) := ⟨⟨by decide +kernel, by decide +kernel⟩, List.mem_of_getElem? (i := 2283) (by decide +kernel), List.mem_of_getElem? (i := 2839) (by decide +kernel), List.mem_of_getElem? (i := 2840) (by decide +kernel)⟩
def lw_privs_10 : List (MethodName × Nat) := [(⟨"OptimaWorks$NetDesk", "takeStops", "(I)V"⟩, 14), (⟨"OptimaWorks$NetDesk", "takePrices", "()V"⟩, 14), (⟨"OptimaWorks$NetDesk", "restFrom", "(II)I"⟩, 14), (⟨"OptimaWorks$NetDesk", "costOver", "(III)I"⟩, 14), (⟨"OptimaWorks$NetDesk", "nextStop", "(II)I"⟩, 14), (⟨"OptimaWorksModel", "next", "()V"⟩, 163), (⟨"OptimaWorksModel", "byteAt", "(I)I"⟩, 163), (⟨"OptimaWorksModel", "takeName", "()V"⟩, 163), (⟨"OptimaWorksModel", "key", "(II)I"⟩, 163), (⟨"OptimaWorksModel", "takeNumber", "()V"⟩, 163), (⟨"OptimaWorksModel", "takeSign", "(I)V"⟩, 163), (⟨"OptimaWorksModel", "readDeclaration", "()V"⟩, 163), (⟨"OptimaWorksModel", "fresh", "()V"⟩, 163), (⟨"OptimaWorksModel", "isKey", "(I)Z"⟩, 163), (⟨"OptimaWorksModel", "readSetOf", "()V"⟩, 163), (⟨"OptimaWorksModel", "readOwn", "()V"⟩, 163)]
theorem lw_r10 : ∀ q ∈ lw_privs_10, lw_okq q := List.forall_mem_cons.mpr ⟨lw_p144, List.forall_mem_cons.mpr ⟨lw_p145, List.forall_mem_cons.mpr ⟨lw_p146, List.forall_mem_cons.mpr ⟨lw_p147, List.forall_mem_cons.mpr ⟨lw_p148, List.forall_mem_cons.mpr ⟨lw_p149, List.forall_mem_cons.mpr ⟨lw_p150, List.forall_mem_cons.mpr ⟨lw_p151, List.forall_mem_cons.mpr ⟨lw_p152, List.forall_mem_cons.mpr ⟨lw_p153, List.forall_mem_cons.mpr ⟨lw_p154, List.forall_mem_cons.mpr ⟨lw_p155, List.forall_mem_cons.mpr ⟨lw_p156, List.forall_mem_cons.mpr ⟨lw_p157, List.forall_mem_cons.mpr ⟨lw_p158, List.forall_mem_cons.mpr ⟨lw_p159, fun _ h => absurd h List.not_mem_nil⟩⟩⟩⟩⟩⟩⟩⟩⟩⟩⟩⟩⟩⟩⟩⟩
theorem lw_p160 : lw_okq (⟨"OptimaWorksModel", "wrong", "()V"⟩, 163) := ⟨⟨by decide +kernel, by decide +kernel⟩, List.mem_of_getElem? (i := 2283) (by decide +kernel), List.mem_of_getElem? (i := 2843) (by decide +kernel), List.mem_of_getElem? (i := 2844) (by decide +kernel)⟩
theorem lw_p161 : lw_okq (⟨"OptimaWorksModel", "faultAt", "(II)V"⟩, 163) := ⟨⟨by decide +kernel, by decide +kernel⟩, List.mem_of_getElem? (i := 2283) (by decide +kernel), List.mem_of_getElem? (i := 2847) (by decide +kernel), List.mem_of_getElem? (i := 2848) (by decide +kernel)⟩
theorem lw_p162 : lw_okq (⟨"OptimaWorksModel", "declared", "()I"⟩, 163) := ⟨⟨by decide +kernel, by decide +kernel⟩, List.mem_of_getElem? (i := 2283) (by decide +kernel), List.mem_of_getElem? (i := 2851) (by decide +kernel), List.mem_of_getElem? (i := 2852) (by decide +kernel)⟩
theorem lw_p163 : lw_okq (⟨"OptimaWorksModel", "sameText", "(IIII)Z"⟩, 163) := ⟨⟨by decide +kernel, by decide +kernel⟩, List.mem_of_getElem? (i := 2283) (by decide +kernel), List.mem_of_getElem? (i := 2855) (by decide +kernel), List.mem_of_getElem? (i := 2856) (by decide +kernel)⟩
theorem lw_p164 : lw_okq (⟨"OptimaWorksModel", "needSign", "(I)Z"⟩, 163) := ⟨⟨by decide +kernel, by decide +kernel⟩, List.mem_of_getElem? (i := 2283) (by decide +kernel), List.mem_of_getElem? (i := 2859) (by decide +kernel), List.mem_of_getElem? (i := 2860) (by decide +kernel)⟩
theorem lw_p165 : lw_okq (⟨"OptimaWorksModel", "isSign", "(I)Z"⟩, 163) := ⟨⟨by decide +kernel, by decide +kernel⟩, List.mem_of_getElem? (i := 2283) (by decide +kernel), List.mem_of_getElem? (i := 2863) (by decide +kernel), List.mem_of_getElem? (i := 2864) (by decide +kernel)⟩
theorem lw_p166 : lw_okq (⟨"OptimaWorksModel", "readWhole", "()I"⟩, 163) := ⟨⟨by decide +kernel, by decide +kernel⟩, List.mem_of_getElem? (i := 2283) (by decide +kernel), List.mem_of_getElem? (i := 2867) (by decide +kernel), List.mem_of_getElem? (i := 2868) (by decide +kernel)⟩
theorem lw_p167 : lw_okq (⟨"OptimaWorksModel", "declare", "(II)V"⟩, 163) := ⟨⟨by decide +kernel, by decide +kernel⟩, List.mem_of_getElem? (i := 2283) (by decide +kernel), List.mem_of_getElem? (i := 2871) (by decide +kernel), List.mem_of_getElem? (i := 2872) (by decide +kernel)⟩
theorem lw_p168 : lw_okq (⟨"OptimaWorksModel", "readParam", "()V"⟩, 163) := ⟨⟨by decide +kernel, by decide +kernel⟩, List.mem_of_getElem? (i := 2283) (by decide +kernel), List.mem_of_getElem? (i := 2875) (by decide +kernel), List.mem_of_getElem? (i := 2876) (by decide +kernel)⟩
theorem lw_p169 : lw_okq (⟨"OptimaWorksModel", "readPlaces", "()V"⟩, 163) := ⟨⟨by decide +kernel, by decide +kernel⟩, List.mem_of_getElem? (i := 2283) (by decide +kernel), List.mem_of_getElem? (i := 2879) (by decide +kernel), List.mem_of_getElem? (i := 2880) (by decide +kernel)⟩
theorem lw_p170 : lw_okq (⟨"OptimaWorksModel", "readSet", "()I"⟩, 163) := ⟨⟨by decide +kernel, by decide +kernel⟩, List.mem_of_getElem? (i := 2283) (by decide +kernel), List.mem_of_getElem? (i := 2883) (by decide +kernel), List.mem_of_getElem? (i := 2884) (by decide +kernel)⟩
theorem lw_p171 : lw_okq (⟨"OptimaWorksModel", "placeMembers", "()I"⟩, 163) := ⟨⟨by decide +kernel, by decide +kernel⟩, List.mem_of_getElem? (i := 2283) (by decide +kernel), List.mem_of_getElem? (i := 2887) (by decide +kernel), List.mem_of_getElem? (i := 2888) (by decide +kernel)⟩
theorem lw_p172 : lw_okq (⟨"OptimaWorksModel", "readPart", "()V"⟩, 163) := ⟨⟨by decide +kernel, by decide +kernel⟩, List.mem_of_getElem? (i := 2283) (by decide +kernel), List.mem_of_getElem? (i := 2891) (by decide +kernel), List.mem_of_getElem? (i := 2892) (by decide +kernel)⟩
theorem lw_p173 : lw_okq (⟨"OptimaWorksModel", "read1", "(I)I"⟩, 163) := ⟨⟨by decide +kernel, by decide +kernel⟩, List.mem_of_getElem? (i := 2283) (by decide +kernel), List.mem_of_getElem? (i := 2895) (by decide +kernel), List.mem_of_getElem? (i := 2896) (by decide +kernel)⟩
theorem lw_p174 : lw_okq (⟨"OptimaWorksModel", "begin1", "(I)V"⟩, 163) := ⟨⟨by decide +kernel, by decide +kernel⟩, List.mem_of_getElem? (i := 2283) (by decide +kernel), List.mem_of_getElem? (i := 2899) (by decide +kernel), List.mem_of_getElem? (i := 2900) (by decide +kernel)⟩
theorem lw_p175 : lw_okq (⟨"OptimaWorksModel", "canBegin", "()Z"⟩, 163) := ⟨⟨by decide +kernel, by decide +kernel⟩, List.mem_of_getElem? (i := 2283) (by decide +kernel), List.mem_of_getElem? (i := 2903) (by decide +kernel), List.mem_of_getElem? (i := 2904) (by decide +kernel)⟩
def lw_privs_11 : List (MethodName × Nat) := [(⟨"OptimaWorksModel", "wrong", "()V"⟩, 163), (⟨"OptimaWorksModel", "faultAt", "(II)V"⟩, 163), (⟨"OptimaWorksModel", "declared", "()I"⟩, 163), (⟨"OptimaWorksModel", "sameText", "(IIII)Z"⟩, 163), (⟨"OptimaWorksModel", "needSign", "(I)Z"⟩, 163), (⟨"OptimaWorksModel", "isSign", "(I)Z"⟩, 163), (⟨"OptimaWorksModel", "readWhole", "()I"⟩, 163), (⟨"OptimaWorksModel", "declare", "(II)V"⟩, 163), (⟨"OptimaWorksModel", "readParam", "()V"⟩, 163), (⟨"OptimaWorksModel", "readPlaces", "()V"⟩, 163), (⟨"OptimaWorksModel", "readSet", "()I"⟩, 163), (⟨"OptimaWorksModel", "placeMembers", "()I"⟩, 163), (⟨"OptimaWorksModel", "readPart", "()V"⟩, 163), (⟨"OptimaWorksModel", "read1", "(I)I"⟩, 163), (⟨"OptimaWorksModel", "begin1", "(I)V"⟩, 163), (⟨"OptimaWorksModel", "canBegin", "()Z"⟩, 163)]
theorem lw_r11 : ∀ q ∈ lw_privs_11, lw_okq q := List.forall_mem_cons.mpr ⟨lw_p160, List.forall_mem_cons.mpr ⟨lw_p161, List.forall_mem_cons.mpr ⟨lw_p162, List.forall_mem_cons.mpr ⟨lw_p163, List.forall_mem_cons.mpr ⟨lw_p164, List.forall_mem_cons.mpr ⟨lw_p165, List.forall_mem_cons.mpr ⟨lw_p166, List.forall_mem_cons.mpr ⟨lw_p167, List.forall_mem_cons.mpr ⟨lw_p168, List.forall_mem_cons.mpr ⟨lw_p169, List.forall_mem_cons.mpr ⟨lw_p170, List.forall_mem_cons.mpr ⟨lw_p171, List.forall_mem_cons.mpr ⟨lw_p172, List.forall_mem_cons.mpr ⟨lw_p173, List.forall_mem_cons.mpr ⟨lw_p174, List.forall_mem_cons.mpr ⟨lw_p175, fun _ h => absurd h List.not_mem_nil⟩⟩⟩⟩⟩⟩⟩⟩⟩⟩⟩⟩⟩⟩⟩⟩
theorem lw_p176 : lw_okq (⟨"OptimaWorksModel", "binder", "()I"⟩, 163) := ⟨⟨by decide +kernel, by decide +kernel⟩, List.mem_of_getElem? (i := 2283) (by decide +kernel), List.mem_of_getElem? (i := 2907) (by decide +kernel), List.mem_of_getElem? (i := 2908) (by decide +kernel)⟩
theorem lw_p177 : lw_okq (⟨"OptimaWorksModel", "isNode", "(I)Z"⟩, 163) := ⟨⟨by decide +kernel, by decide +kernel⟩, List.mem_of_getElem? (i := 2283) (by decide +kernel), List.mem_of_getElem? (i := 2911) (by decide +kernel), List.mem_of_getElem? (i := 2912) (by decide +kernel)⟩
theorem lw_p178 : lw_okq (⟨"OptimaWorksModel", "readLinear", "(I)V"⟩, 163) := ⟨⟨by decide +kernel, by decide +kernel⟩, List.mem_of_getElem? (i := 2283) (by decide +kernel), List.mem_of_getElem? (i := 2915) (by decide +kernel), List.mem_of_getElem? (i := 2916) (by decide +kernel)⟩
theorem lw_p179 : lw_okq (⟨"OptimaWorksModel", "node", "(IIIII)I"⟩, 163) := ⟨⟨by decide +kernel, by decide +kernel⟩, List.mem_of_getElem? (i := 2283) (by decide +kernel), List.mem_of_getElem? (i := 2919) (by decide +kernel), List.mem_of_getElem? (i := 2920) (by decide +kernel)⟩
theorem lw_p180 : lw_okq (⟨"OptimaWorksModel", "end1", "(I)V"⟩, 163) := ⟨⟨by decide +kernel, by decide +kernel⟩, List.mem_of_getElem? (i := 2283) (by decide +kernel), List.mem_of_getElem? (i := 2923) (by decide +kernel), List.mem_of_getElem? (i := 2924) (by decide +kernel)⟩
theorem lw_p181 : lw_okq (⟨"OptimaWorksModel", "readFactor", "(I)V"⟩, 163) := ⟨⟨by decide +kernel, by decide +kernel⟩, List.mem_of_getElem? (i := 2283) (by decide +kernel), List.mem_of_getElem? (i := 2927) (by decide +kernel), List.mem_of_getElem? (i := 2928) (by decide +kernel)⟩
theorem lw_p182 : lw_okq (⟨"OptimaWorksModel", "beginFactor", "(I)V"⟩, 163) := ⟨⟨by decide +kernel, by decide +kernel⟩, List.mem_of_getElem? (i := 2283) (by decide +kernel), List.mem_of_getElem? (i := 2931) (by decide +kernel), List.mem_of_getElem? (i := 2932) (by decide +kernel)⟩
theorem lw_p183 : lw_okq (⟨"OptimaWorksModel", "readBinding", "()I"⟩, 163) := ⟨⟨by decide +kernel, by decide +kernel⟩, List.mem_of_getElem? (i := 2283) (by decide +kernel), List.mem_of_getElem? (i := 2935) (by decide +kernel), List.mem_of_getElem? (i := 2936) (by decide +kernel)⟩
theorem lw_p184 : lw_okq (⟨"OptimaWorksModel", "readBinder", "()I"⟩, 163) := ⟨⟨by decide +kernel, by decide +kernel⟩, List.mem_of_getElem? (i := 2283) (by decide +kernel), List.mem_of_getElem? (i := 2939) (by decide +kernel), List.mem_of_getElem? (i := 2940) (by decide +kernel)⟩
theorem lw_p185 : lw_okq (⟨"OptimaWorksModel", "needKey", "(I)Z"⟩, 163) := ⟨⟨by decide +kernel, by decide +kernel⟩, List.mem_of_getElem? (i := 2283) (by decide +kernel), List.mem_of_getElem? (i := 2943) (by decide +kernel), List.mem_of_getElem? (i := 2944) (by decide +kernel)⟩
theorem lw_p186 : lw_okq (⟨"OptimaWorksModel", "closeSum", "(I)V"⟩, 163) := ⟨⟨by decide +kernel, by decide +kernel⟩, List.mem_of_getElem? (i := 2283) (by decide +kernel), List.mem_of_getElem? (i := 2947) (by decide +kernel), List.mem_of_getElem? (i := 2948) (by decide +kernel)⟩
theorem lw_p187 : lw_okq (⟨"OptimaWorksModel", "beginName", "(I)V"⟩, 163) := ⟨⟨by decide +kernel, by decide +kernel⟩, List.mem_of_getElem? (i := 2283) (by decide +kernel), List.mem_of_getElem? (i := 2951) (by decide +kernel), List.mem_of_getElem? (i := 2952) (by decide +kernel)⟩
theorem lw_p188 : lw_okq (⟨"OptimaWorksModel", "placesOf", "(I)I"⟩, 163) := ⟨⟨by decide +kernel, by decide +kernel⟩, List.mem_of_getElem? (i := 2283) (by decide +kernel), List.mem_of_getElem? (i := 2955) (by decide +kernel), List.mem_of_getElem? (i := 2956) (by decide +kernel)⟩
theorem lw_p189 : lw_okq (⟨"OptimaWorksModel", "readTruth", "(I)V"⟩, 163) := ⟨⟨by decide +kernel, by decide +kernel⟩, List.mem_of_getElem? (i := 2283) (by decide +kernel), List.mem_of_getElem? (i := 2959) (by decide +kernel), List.mem_of_getElem? (i := 2960) (by decide +kernel)⟩
theorem lw_p190 : lw_okq (⟨"OptimaWorksModel", "readOne", "(I)V"⟩, 163) := ⟨⟨by decide +kernel, by decide +kernel⟩, List.mem_of_getElem? (i := 2283) (by decide +kernel), List.mem_of_getElem? (i := 2963) (by decide +kernel), List.mem_of_getElem? (i := 2964) (by decide +kernel)⟩
theorem lw_p191 : lw_okq (⟨"OptimaWorksModel", "workNumber", "(I)V"⟩, 163) := ⟨⟨by decide +kernel, by decide +kernel⟩, List.mem_of_getElem? (i := 2283) (by decide +kernel), List.mem_of_getElem? (i := 2967) (by decide +kernel), List.mem_of_getElem? (i := 2968) (by decide +kernel)⟩
def lw_privs_12 : List (MethodName × Nat) := [(⟨"OptimaWorksModel", "binder", "()I"⟩, 163), (⟨"OptimaWorksModel", "isNode", "(I)Z"⟩, 163), (⟨"OptimaWorksModel", "readLinear", "(I)V"⟩, 163), (⟨"OptimaWorksModel", "node", "(IIIII)I"⟩, 163), (⟨"OptimaWorksModel", "end1", "(I)V"⟩, 163), (⟨"OptimaWorksModel", "readFactor", "(I)V"⟩, 163), (⟨"OptimaWorksModel", "beginFactor", "(I)V"⟩, 163), (⟨"OptimaWorksModel", "readBinding", "()I"⟩, 163), (⟨"OptimaWorksModel", "readBinder", "()I"⟩, 163), (⟨"OptimaWorksModel", "needKey", "(I)Z"⟩, 163), (⟨"OptimaWorksModel", "closeSum", "(I)V"⟩, 163), (⟨"OptimaWorksModel", "beginName", "(I)V"⟩, 163), (⟨"OptimaWorksModel", "placesOf", "(I)I"⟩, 163), (⟨"OptimaWorksModel", "readTruth", "(I)V"⟩, 163), (⟨"OptimaWorksModel", "readOne", "(I)V"⟩, 163), (⟨"OptimaWorksModel", "workNumber", "(I)V"⟩, 163)]
theorem lw_r12 : ∀ q ∈ lw_privs_12, lw_okq q := List.forall_mem_cons.mpr ⟨lw_p176, List.forall_mem_cons.mpr ⟨lw_p177, List.forall_mem_cons.mpr ⟨lw_p178, List.forall_mem_cons.mpr ⟨lw_p179, List.forall_mem_cons.mpr ⟨lw_p180, List.forall_mem_cons.mpr ⟨lw_p181, List.forall_mem_cons.mpr ⟨lw_p182, List.forall_mem_cons.mpr ⟨lw_p183, List.forall_mem_cons.mpr ⟨lw_p184, List.forall_mem_cons.mpr ⟨lw_p185, List.forall_mem_cons.mpr ⟨lw_p186, List.forall_mem_cons.mpr ⟨lw_p187, List.forall_mem_cons.mpr ⟨lw_p188, List.forall_mem_cons.mpr ⟨lw_p189, List.forall_mem_cons.mpr ⟨lw_p190, List.forall_mem_cons.mpr ⟨lw_p191, fun _ h => absurd h List.not_mem_nil⟩⟩⟩⟩⟩⟩⟩⟩⟩⟩⟩⟩⟩⟩⟩⟩
theorem lw_p192 : lw_okq (⟨"OptimaWorksModel", "work", "(I)V"⟩, 163) := ⟨⟨by decide +kernel, by decide +kernel⟩, List.mem_of_getElem? (i := 2283) (by decide +kernel), List.mem_of_getElem? (i := 2971) (by decide +kernel), List.mem_of_getElem? (i := 2972) (by decide +kernel)⟩
theorem lw_p193 : lw_okq (⟨"OptimaWorksModel", "call", "(I)V"⟩, 163) := ⟨⟨by decide +kernel, by decide +kernel⟩, List.mem_of_getElem? (i := 2283) (by decide +kernel), List.mem_of_getElem? (i := 2975) (by decide +kernel), List.mem_of_getElem? (i := 2976) (by decide +kernel)⟩
theorem lw_p194 : lw_okq (⟨"OptimaWorksModel", "workFrame", "(I)V"⟩, 163) := ⟨⟨by decide +kernel, by decide +kernel⟩, List.mem_of_getElem? (i := 2283) (by decide +kernel), List.mem_of_getElem? (i := 2979) (by decide +kernel), List.mem_of_getElem? (i := 2980) (by decide +kernel)⟩
theorem lw_p195 : lw_okq (⟨"OptimaWorksModel", "stepOne", "()V"⟩, 163) := ⟨⟨by decide +kernel, by decide +kernel⟩, List.mem_of_getElem? (i := 2283) (by decide +kernel), List.mem_of_getElem? (i := 2983) (by decide +kernel), List.mem_of_getElem? (i := 2984) (by decide +kernel)⟩
theorem lw_p196 : lw_okq (⟨"OptimaWorksModel", "nought", "(I)V"⟩, 163) := ⟨⟨by decide +kernel, by decide +kernel⟩, List.mem_of_getElem? (i := 2283) (by decide +kernel), List.mem_of_getElem? (i := 2987) (by decide +kernel), List.mem_of_getElem? (i := 2988) (by decide +kernel)⟩
theorem lw_p197 : lw_okq (⟨"OptimaWorksModel", "workName", "(II)V"⟩, 163) := ⟨⟨by decide +kernel, by decide +kernel⟩, List.mem_of_getElem? (i := 2283) (by decide +kernel), List.mem_of_getElem? (i := 2991) (by decide +kernel), List.mem_of_getElem? (i := 2992) (by decide +kernel)⟩
theorem lw_p198 : lw_okq (⟨"OptimaWorksModel", "member", "(II)I"⟩, 163) := ⟨⟨by decide +kernel, by decide +kernel⟩, List.mem_of_getElem? (i := 2283) (by decide +kernel), List.mem_of_getElem? (i := 2995) (by decide +kernel), List.mem_of_getElem? (i := 2996) (by decide +kernel)⟩
theorem lw_p199 : lw_okq (⟨"OptimaWorksModel", "hasVariables", "(I)Z"⟩, 163) := ⟨⟨by decide +kernel, by decide +kernel⟩, List.mem_of_getElem? (i := 2283) (by decide +kernel), List.mem_of_getElem? (i := 2999) (by decide +kernel), List.mem_of_getElem? (i := 3000) (by decide +kernel)⟩
theorem lw_p200 : lw_okq (⟨"OptimaWorksModel", "workSum", "(II)V"⟩, 163) := ⟨⟨by decide +kernel, by decide +kernel⟩, List.mem_of_getElem? (i := 2283) (by decide +kernel), List.mem_of_getElem? (i := 3003) (by decide +kernel), List.mem_of_getElem? (i := 3004) (by decide +kernel)⟩
theorem lw_p201 : lw_okq (⟨"OptimaWorksModel", "membersOf", "(I)I"⟩, 163) := ⟨⟨by decide +kernel, by decide +kernel⟩, List.mem_of_getElem? (i := 2283) (by decide +kernel), List.mem_of_getElem? (i := 3007) (by decide +kernel), List.mem_of_getElem? (i := 3008) (by decide +kernel)⟩
theorem lw_p202 : lw_okq (⟨"OptimaWorksModel", "bind", "(II)V"⟩, 163) := ⟨⟨by decide +kernel, by decide +kernel⟩, List.mem_of_getElem? (i := 2283) (by decide +kernel), List.mem_of_getElem? (i := 3011) (by decide +kernel), List.mem_of_getElem? (i := 3012) (by decide +kernel)⟩
theorem lw_p203 : lw_okq (⟨"OptimaWorksModel", "join", "(IIII)V"⟩, 163) := ⟨⟨by decide +kernel, by decide +kernel⟩, List.mem_of_getElem? (i := 2283) (by decide +kernel), List.mem_of_getElem? (i := 3015) (by decide +kernel), List.mem_of_getElem? (i := 3016) (by decide +kernel)⟩
theorem lw_p204 : lw_okq (⟨"OptimaWorksModel", "put1", "(IIJJI)V"⟩, 163) := ⟨⟨by decide +kernel, by decide +kernel⟩, List.mem_of_getElem? (i := 2283) (by decide +kernel), List.mem_of_getElem? (i := 3019) (by decide +kernel), List.mem_of_getElem? (i := 3020) (by decide +kernel)⟩
theorem lw_p205 : lw_okq (⟨"OptimaWorksModel", "workJoined", "(II)V"⟩, 163) := ⟨⟨by decide +kernel, by decide +kernel⟩, List.mem_of_getElem? (i := 2283) (by decide +kernel), List.mem_of_getElem? (i := 3028) (by decide +kernel), List.mem_of_getElem? (i := 3029) (by decide +kernel)⟩
theorem lw_p206 : lw_okq (⟨"OptimaWorksModel", "workCompare", "(II)V"⟩, 163) := ⟨⟨by decide +kernel, by decide +kernel⟩, List.mem_of_getElem? (i := 2283) (by decide +kernel), List.mem_of_getElem? (i := 3032) (by decide +kernel), List.mem_of_getElem? (i := 3033) (by decide +kernel)⟩
theorem lw_p207 : lw_okq (⟨"OptimaWorksModel", "workPair", "(II)V"⟩, 163) := ⟨⟨by decide +kernel, by decide +kernel⟩, List.mem_of_getElem? (i := 2283) (by decide +kernel), List.mem_of_getElem? (i := 3036) (by decide +kernel), List.mem_of_getElem? (i := 3037) (by decide +kernel)⟩
def lw_privs_13 : List (MethodName × Nat) := [(⟨"OptimaWorksModel", "work", "(I)V"⟩, 163), (⟨"OptimaWorksModel", "call", "(I)V"⟩, 163), (⟨"OptimaWorksModel", "workFrame", "(I)V"⟩, 163), (⟨"OptimaWorksModel", "stepOne", "()V"⟩, 163), (⟨"OptimaWorksModel", "nought", "(I)V"⟩, 163), (⟨"OptimaWorksModel", "workName", "(II)V"⟩, 163), (⟨"OptimaWorksModel", "member", "(II)I"⟩, 163), (⟨"OptimaWorksModel", "hasVariables", "(I)Z"⟩, 163), (⟨"OptimaWorksModel", "workSum", "(II)V"⟩, 163), (⟨"OptimaWorksModel", "membersOf", "(I)I"⟩, 163), (⟨"OptimaWorksModel", "bind", "(II)V"⟩, 163), (⟨"OptimaWorksModel", "join", "(IIII)V"⟩, 163), (⟨"OptimaWorksModel", "put1", "(IIJJI)V"⟩, 163), (⟨"OptimaWorksModel", "workJoined", "(II)V"⟩, 163), (⟨"OptimaWorksModel", "workCompare", "(II)V"⟩, 163), (⟨"OptimaWorksModel", "workPair", "(II)V"⟩, 163)]
theorem lw_r13 : ∀ q ∈ lw_privs_13, lw_okq q := List.forall_mem_cons.mpr ⟨lw_p192, List.forall_mem_cons.mpr ⟨lw_p193, List.forall_mem_cons.mpr ⟨lw_p194, List.forall_mem_cons.mpr ⟨lw_p195, List.forall_mem_cons.mpr ⟨lw_p196, List.forall_mem_cons.mpr ⟨lw_p197, List.forall_mem_cons.mpr ⟨lw_p198, List.forall_mem_cons.mpr ⟨lw_p199, List.forall_mem_cons.mpr ⟨lw_p200, List.forall_mem_cons.mpr ⟨lw_p201, List.forall_mem_cons.mpr ⟨lw_p202, List.forall_mem_cons.mpr ⟨lw_p203, List.forall_mem_cons.mpr ⟨lw_p204, List.forall_mem_cons.mpr ⟨lw_p205, List.forall_mem_cons.mpr ⟨lw_p206, List.forall_mem_cons.mpr ⟨lw_p207, fun _ h => absurd h List.not_mem_nil⟩⟩⟩⟩⟩⟩⟩⟩⟩⟩⟩⟩⟩⟩⟩⟩
theorem lw_p208 : lw_okq (⟨"OptimaWorksModel", "scale", "(IIZI)V"⟩, 163) := ⟨⟨by decide +kernel, by decide +kernel⟩, List.mem_of_getElem? (i := 2283) (by decide +kernel), List.mem_of_getElem? (i := 3040) (by decide +kernel), List.mem_of_getElem? (i := 3041) (by decide +kernel)⟩
theorem lw_p209 : lw_okq (⟨"OptimaWorksModel", "readVar", "()V"⟩, 163) := ⟨⟨by decide +kernel, by decide +kernel⟩, List.mem_of_getElem? (i := 2283) (by decide +kernel), List.mem_of_getElem? (i := 3044) (by decide +kernel), List.mem_of_getElem? (i := 3045) (by decide +kernel)⟩
theorem lw_p210 : lw_okq (⟨"OptimaWorksModel", "bound", "(I)I"⟩, 163) := ⟨⟨by decide +kernel, by decide +kernel⟩, List.mem_of_getElem? (i := 2283) (by decide +kernel), List.mem_of_getElem? (i := 3048) (by decide +kernel), List.mem_of_getElem? (i := 3049) (by decide +kernel)⟩
theorem lw_p211 : lw_okq (⟨"OptimaWorksModel", "grow", "(II)V"⟩, 163) := ⟨⟨by decide +kernel, by decide +kernel⟩, List.mem_of_getElem? (i := 2283) (by decide +kernel), List.mem_of_getElem? (i := 3052) (by decide +kernel), List.mem_of_getElem? (i := 3053) (by decide +kernel)⟩
theorem lw_p212 : lw_okq (⟨"OptimaWorksModel", "readRow", "()V"⟩, 163) := ⟨⟨by decide +kernel, by decide +kernel⟩, List.mem_of_getElem? (i := 2283) (by decide +kernel), List.mem_of_getElem? (i := 3056) (by decide +kernel), List.mem_of_getElem? (i := 3057) (by decide +kernel)⟩
theorem lw_p213 : lw_okq (⟨"OptimaWorksModel", "doRow", "(IIII)V"⟩, 163) := ⟨⟨by decide +kernel, by decide +kernel⟩, List.mem_of_getElem? (i := 2283) (by decide +kernel), List.mem_of_getElem? (i := 3060) (by decide +kernel), List.mem_of_getElem? (i := 3061) (by decide +kernel)⟩
theorem lw_p214 : lw_okq (⟨"OptimaWorksModel", "keep", "(IIII)V"⟩, 163) := ⟨⟨by decide +kernel, by decide +kernel⟩, List.mem_of_getElem? (i := 2283) (by decide +kernel), List.mem_of_getElem? (i := 3064) (by decide +kernel), List.mem_of_getElem? (i := 3065) (by decide +kernel)⟩
theorem lw_p215 : lw_okq (⟨"OptimaWorksModel", "put", "(IJ)V"⟩, 163) := ⟨⟨by decide +kernel, by decide +kernel⟩, List.mem_of_getElem? (i := 2283) (by decide +kernel), List.mem_of_getElem? (i := 3068) (by decide +kernel), List.mem_of_getElem? (i := 3069) (by decide +kernel)⟩
theorem lw_p216 : lw_okq (⟨"OptimaWorksModel", "common", "(III)V"⟩, 163) := ⟨⟨by decide +kernel, by decide +kernel⟩, List.mem_of_getElem? (i := 2283) (by decide +kernel), List.mem_of_getElem? (i := 3073) (by decide +kernel), List.mem_of_getElem? (i := 3074) (by decide +kernel)⟩
theorem lw_p217 : lw_okq (⟨"OptimaWorksModel", "copy", "(II)V"⟩, 163) := ⟨⟨by decide +kernel, by decide +kernel⟩, List.mem_of_getElem? (i := 2283) (by decide +kernel), List.mem_of_getElem? (i := 3077) (by decide +kernel), List.mem_of_getElem? (i := 3078) (by decide +kernel)⟩
theorem lw_p218 : lw_okq (⟨"OptimaWorksModel", "sign", "(I)I"⟩, 163) := ⟨⟨by decide +kernel, by decide +kernel⟩, List.mem_of_getElem? (i := 2283) (by decide +kernel), List.mem_of_getElem? (i := 3081) (by decide +kernel), List.mem_of_getElem? (i := 3082) (by decide +kernel)⟩
theorem lw_p219 : lw_okq (⟨"OptimaWorksModel", "turn", "(I)V"⟩, 163) := ⟨⟨by decide +kernel, by decide +kernel⟩, List.mem_of_getElem? (i := 2283) (by decide +kernel), List.mem_of_getElem? (i := 3085) (by decide +kernel), List.mem_of_getElem? (i := 3086) (by decide +kernel)⟩
theorem lw_p220 : lw_okq (⟨"OptimaWorksModel", "divide", "(IIII)V"⟩, 163) := ⟨⟨by decide +kernel, by decide +kernel⟩, List.mem_of_getElem? (i := 2283) (by decide +kernel), List.mem_of_getElem? (i := 3089) (by decide +kernel), List.mem_of_getElem? (i := 3090) (by decide +kernel)⟩
theorem lw_p221 : lw_okq (⟨"OptimaWorksModel", "bare", "(II)I"⟩, 163) := ⟨⟨by decide +kernel, by decide +kernel⟩, List.mem_of_getElem? (i := 2283) (by decide +kernel), List.mem_of_getElem? (i := 3093) (by decide +kernel), List.mem_of_getElem? (i := 3094) (by decide +kernel)⟩
theorem lw_p222 : lw_okq (⟨"OptimaWorksModel", "carry", "(III)V"⟩, 163) := ⟨⟨by decide +kernel, by decide +kernel⟩, List.mem_of_getElem? (i := 2283) (by decide +kernel), List.mem_of_getElem? (i := 3097) (by decide +kernel), List.mem_of_getElem? (i := 3098) (by decide +kernel)⟩
theorem lw_p223 : lw_okq (⟨"OptimaWorksModel", "isMore", "(I)Z"⟩, 163) := ⟨⟨by decide +kernel, by decide +kernel⟩, List.mem_of_getElem? (i := 2283) (by decide +kernel), List.mem_of_getElem? (i := 3102) (by decide +kernel), List.mem_of_getElem? (i := 3103) (by decide +kernel)⟩
def lw_privs_14 : List (MethodName × Nat) := [(⟨"OptimaWorksModel", "scale", "(IIZI)V"⟩, 163), (⟨"OptimaWorksModel", "readVar", "()V"⟩, 163), (⟨"OptimaWorksModel", "bound", "(I)I"⟩, 163), (⟨"OptimaWorksModel", "grow", "(II)V"⟩, 163), (⟨"OptimaWorksModel", "readRow", "()V"⟩, 163), (⟨"OptimaWorksModel", "doRow", "(IIII)V"⟩, 163), (⟨"OptimaWorksModel", "keep", "(IIII)V"⟩, 163), (⟨"OptimaWorksModel", "put", "(IJ)V"⟩, 163), (⟨"OptimaWorksModel", "common", "(III)V"⟩, 163), (⟨"OptimaWorksModel", "copy", "(II)V"⟩, 163), (⟨"OptimaWorksModel", "sign", "(I)I"⟩, 163), (⟨"OptimaWorksModel", "turn", "(I)V"⟩, 163), (⟨"OptimaWorksModel", "divide", "(IIII)V"⟩, 163), (⟨"OptimaWorksModel", "bare", "(II)I"⟩, 163), (⟨"OptimaWorksModel", "carry", "(III)V"⟩, 163), (⟨"OptimaWorksModel", "isMore", "(I)Z"⟩, 163)]
theorem lw_r14 : ∀ q ∈ lw_privs_14, lw_okq q := List.forall_mem_cons.mpr ⟨lw_p208, List.forall_mem_cons.mpr ⟨lw_p209, List.forall_mem_cons.mpr ⟨lw_p210, List.forall_mem_cons.mpr ⟨lw_p211, List.forall_mem_cons.mpr ⟨lw_p212, List.forall_mem_cons.mpr ⟨lw_p213, List.forall_mem_cons.mpr ⟨lw_p214, List.forall_mem_cons.mpr ⟨lw_p215, List.forall_mem_cons.mpr ⟨lw_p216, List.forall_mem_cons.mpr ⟨lw_p217, List.forall_mem_cons.mpr ⟨lw_p218, List.forall_mem_cons.mpr ⟨lw_p219, List.forall_mem_cons.mpr ⟨lw_p220, List.forall_mem_cons.mpr ⟨lw_p221, List.forall_mem_cons.mpr ⟨lw_p222, List.forall_mem_cons.mpr ⟨lw_p223, fun _ h => absurd h List.not_mem_nil⟩⟩⟩⟩⟩⟩⟩⟩⟩⟩⟩⟩⟩⟩⟩⟩
theorem lw_p224 : lw_okq (⟨"OptimaWorksModel", "times", "(III)V"⟩, 163) := ⟨⟨by decide +kernel, by decide +kernel⟩, List.mem_of_getElem? (i := 2283) (by decide +kernel), List.mem_of_getElem? (i := 3107) (by decide +kernel), List.mem_of_getElem? (i := 3108) (by decide +kernel)⟩
theorem lw_p225 : lw_okq (⟨"OptimaWorksModel", "whole1", "(I)V"⟩, 163) := ⟨⟨by decide +kernel, by decide +kernel⟩, List.mem_of_getElem? (i := 2283) (by decide +kernel), List.mem_of_getElem? (i := 3111) (by decide +kernel), List.mem_of_getElem? (i := 3112) (by decide +kernel)⟩
theorem lw_p226 : lw_okq (⟨"OptimaWorksModel", "small", "(I)I"⟩, 163) := ⟨⟨by decide +kernel, by decide +kernel⟩, List.mem_of_getElem? (i := 2283) (by decide +kernel), List.mem_of_getElem? (i := 3117) (by decide +kernel), List.mem_of_getElem? (i := 3118) (by decide +kernel)⟩
theorem lw_p227 : lw_okq (⟨"OptimaWorksModel", "readDifferent", "()V"⟩, 163) := ⟨⟨by decide +kernel, by decide +kernel⟩, List.mem_of_getElem? (i := 2283) (by decide +kernel), List.mem_of_getElem? (i := 3121) (by decide +kernel), List.mem_of_getElem? (i := 3122) (by decide +kernel)⟩
theorem lw_p228 : lw_okq (⟨"OptimaWorksModel", "readGoal", "()V"⟩, 163) := ⟨⟨by decide +kernel, by decide +kernel⟩, List.mem_of_getElem? (i := 2283) (by decide +kernel), List.mem_of_getElem? (i := 3125) (by decide +kernel), List.mem_of_getElem? (i := 3126) (by decide +kernel)⟩
theorem lw_p229 : lw_okq (⟨"OptimaWorksModel", "solves", "(ZZ)Z"⟩, 163) := ⟨⟨by decide +kernel, by decide +kernel⟩, List.mem_of_getElem? (i := 2283) (by decide +kernel), List.mem_of_getElem? (i := 3133) (by decide +kernel), List.mem_of_getElem? (i := 3134) (by decide +kernel)⟩
theorem lw_p230 : lw_okq (⟨"OptimaWorksModel", "begin", "(I)V"⟩, 163) := ⟨⟨by decide +kernel, by decide +kernel⟩, List.mem_of_getElem? (i := 2283) (by decide +kernel), List.mem_of_getElem? (i := 3137) (by decide +kernel), List.mem_of_getElem? (i := 3138) (by decide +kernel)⟩
theorem lw_p231 : lw_okq (⟨"OptimaWorksModel", "waysOf", "(I)V"⟩, 163) := ⟨⟨by decide +kernel, by decide +kernel⟩, List.mem_of_getElem? (i := 2283) (by decide +kernel), List.mem_of_getElem? (i := 3141) (by decide +kernel), List.mem_of_getElem? (i := 3142) (by decide +kernel)⟩
theorem lw_p232 : lw_okq (⟨"OptimaWorksModel", "wayRow", "(II)V"⟩, 163) := ⟨⟨by decide +kernel, by decide +kernel⟩, List.mem_of_getElem? (i := 2283) (by decide +kernel), List.mem_of_getElem? (i := 3145) (by decide +kernel), List.mem_of_getElem? (i := 3146) (by decide +kernel)⟩
theorem lw_p233 : lw_okq (⟨"OptimaWorksModel", "newLine", "()I"⟩, 163) := ⟨⟨by decide +kernel, by decide +kernel⟩, List.mem_of_getElem? (i := 2283) (by decide +kernel), List.mem_of_getElem? (i := 3149) (by decide +kernel), List.mem_of_getElem? (i := 3150) (by decide +kernel)⟩
theorem lw_p234 : lw_okq (⟨"OptimaWorksModel", "newRow", "()I"⟩, 163) := ⟨⟨by decide +kernel, by decide +kernel⟩, List.mem_of_getElem? (i := 2283) (by decide +kernel), List.mem_of_getElem? (i := 3153) (by decide +kernel), List.mem_of_getElem? (i := 3154) (by decide +kernel)⟩
theorem lw_p235 : lw_okq (⟨"OptimaWorksModel", "at", "(II)I"⟩, 163) := ⟨⟨by decide +kernel, by decide +kernel⟩, List.mem_of_getElem? (i := 2283) (by decide +kernel), List.mem_of_getElem? (i := 3157) (by decide +kernel), List.mem_of_getElem? (i := 3158) (by decide +kernel)⟩
theorem lw_p236 : lw_okq (⟨"OptimaWorksModel", "least", "(I)I"⟩, 163) := ⟨⟨by decide +kernel, by decide +kernel⟩, List.mem_of_getElem? (i := 2283) (by decide +kernel), List.mem_of_getElem? (i := 3162) (by decide +kernel), List.mem_of_getElem? (i := 3163) (by decide +kernel)⟩
theorem lw_p237 : lw_okq (⟨"OptimaWorksModel", "start", "()V"⟩, 163) := ⟨⟨by decide +kernel, by decide +kernel⟩, List.mem_of_getElem? (i := 2283) (by decide +kernel), List.mem_of_getElem? (i := 3166) (by decide +kernel), List.mem_of_getElem? (i := 3167) (by decide +kernel)⟩
theorem lw_p238 : lw_okq (⟨"OptimaWorksModel", "goalRow", "()I"⟩, 163) := ⟨⟨by decide +kernel, by decide +kernel⟩, List.mem_of_getElem? (i := 2283) (by decide +kernel), List.mem_of_getElem? (i := 3170) (by decide +kernel), List.mem_of_getElem? (i := 3171) (by decide +kernel)⟩
theorem lw_p239 : lw_okq (⟨"OptimaWorksModel", "scaleOf", "(I)V"⟩, 163) := ⟨⟨by decide +kernel, by decide +kernel⟩, List.mem_of_getElem? (i := 2283) (by decide +kernel), List.mem_of_getElem? (i := 3174) (by decide +kernel), List.mem_of_getElem? (i := 3175) (by decide +kernel)⟩
def lw_privs_15 : List (MethodName × Nat) := [(⟨"OptimaWorksModel", "times", "(III)V"⟩, 163), (⟨"OptimaWorksModel", "whole1", "(I)V"⟩, 163), (⟨"OptimaWorksModel", "small", "(I)I"⟩, 163), (⟨"OptimaWorksModel", "readDifferent", "()V"⟩, 163), (⟨"OptimaWorksModel", "readGoal", "()V"⟩, 163), (⟨"OptimaWorksModel", "solves", "(ZZ)Z"⟩, 163), (⟨"OptimaWorksModel", "begin", "(I)V"⟩, 163), (⟨"OptimaWorksModel", "waysOf", "(I)V"⟩, 163), (⟨"OptimaWorksModel", "wayRow", "(II)V"⟩, 163), (⟨"OptimaWorksModel", "newLine", "()I"⟩, 163), (⟨"OptimaWorksModel", "newRow", "()I"⟩, 163), (⟨"OptimaWorksModel", "at", "(II)I"⟩, 163), (⟨"OptimaWorksModel", "least", "(I)I"⟩, 163), (⟨"OptimaWorksModel", "start", "()V"⟩, 163), (⟨"OptimaWorksModel", "goalRow", "()I"⟩, 163), (⟨"OptimaWorksModel", "scaleOf", "(I)V"⟩, 163)]
theorem lw_r15 : ∀ q ∈ lw_privs_15, lw_okq q := List.forall_mem_cons.mpr ⟨lw_p224, List.forall_mem_cons.mpr ⟨lw_p225, List.forall_mem_cons.mpr ⟨lw_p226, List.forall_mem_cons.mpr ⟨lw_p227, List.forall_mem_cons.mpr ⟨lw_p228, List.forall_mem_cons.mpr ⟨lw_p229, List.forall_mem_cons.mpr ⟨lw_p230, List.forall_mem_cons.mpr ⟨lw_p231, List.forall_mem_cons.mpr ⟨lw_p232, List.forall_mem_cons.mpr ⟨lw_p233, List.forall_mem_cons.mpr ⟨lw_p234, List.forall_mem_cons.mpr ⟨lw_p235, List.forall_mem_cons.mpr ⟨lw_p236, List.forall_mem_cons.mpr ⟨lw_p237, List.forall_mem_cons.mpr ⟨lw_p238, List.forall_mem_cons.mpr ⟨lw_p239, fun _ h => absurd h List.not_mem_nil⟩⟩⟩⟩⟩⟩⟩⟩⟩⟩⟩⟩⟩⟩⟩⟩
theorem lw_p240 : lw_okq (⟨"OptimaWorksModel", "goalNumber", "(II)V"⟩, 163) := ⟨⟨by decide +kernel, by decide +kernel⟩, List.mem_of_getElem? (i := 2283) (by decide +kernel), List.mem_of_getElem? (i := 3178) (by decide +kernel), List.mem_of_getElem? (i := 3179) (by decide +kernel)⟩
theorem lw_p241 : lw_okq (⟨"OptimaWorksModel", "canKeep", "()Z"⟩, 163) := ⟨⟨by decide +kernel, by decide +kernel⟩, List.mem_of_getElem? (i := 2283) (by decide +kernel), List.mem_of_getElem? (i := 3182) (by decide +kernel), List.mem_of_getElem? (i := 3183) (by decide +kernel)⟩
theorem lw_p242 : lw_okq (⟨"OptimaWorksModel", "compare", "(II)I"⟩, 163) := ⟨⟨by decide +kernel, by decide +kernel⟩, List.mem_of_getElem? (i := 2283) (by decide +kernel), List.mem_of_getElem? (i := 3186) (by decide +kernel), List.mem_of_getElem? (i := 3187) (by decide +kernel)⟩
theorem lw_p243 : lw_okq (⟨"OptimaWorksModel", "hasten", "()V"⟩, 163) := ⟨⟨by decide +kernel, by decide +kernel⟩, List.mem_of_getElem? (i := 2283) (by decide +kernel), List.mem_of_getElem? (i := 3190) (by decide +kernel), List.mem_of_getElem? (i := 3191) (by decide +kernel)⟩
theorem lw_p244 : lw_okq (⟨"OptimaWorksModel", "worth", "(I)J"⟩, 163) := ⟨⟨by decide +kernel, by decide +kernel⟩, List.mem_of_getElem? (i := 2283) (by decide +kernel), List.mem_of_getElem? (i := 3194) (by decide +kernel), List.mem_of_getElem? (i := 3195) (by decide +kernel)⟩
theorem lw_p245 : lw_okq (⟨"OptimaWorksModel", "pivot", "(II)V"⟩, 163) := ⟨⟨by decide +kernel, by decide +kernel⟩, List.mem_of_getElem? (i := 2283) (by decide +kernel), List.mem_of_getElem? (i := 3200) (by decide +kernel), List.mem_of_getElem? (i := 3201) (by decide +kernel)⟩
theorem lw_p246 : lw_okq (⟨"OptimaWorksModel", "pivotsQuick", "(II)Z"⟩, 163) := ⟨⟨by decide +kernel, by decide +kernel⟩, List.mem_of_getElem? (i := 2283) (by decide +kernel), List.mem_of_getElem? (i := 3204) (by decide +kernel), List.mem_of_getElem? (i := 3205) (by decide +kernel)⟩
theorem lw_p247 : lw_okq (⟨"OptimaWorksModel", "place1", "(II)I"⟩, 163) := ⟨⟨by decide +kernel, by decide +kernel⟩, List.mem_of_getElem? (i := 2283) (by decide +kernel), List.mem_of_getElem? (i := 3208) (by decide +kernel), List.mem_of_getElem? (i := 3209) (by decide +kernel)⟩
theorem lw_p248 : lw_okq (⟨"OptimaWorksModel", "exchange", "(II)V"⟩, 163) := ⟨⟨by decide +kernel, by decide +kernel⟩, List.mem_of_getElem? (i := 2283) (by decide +kernel), List.mem_of_getElem? (i := 3212) (by decide +kernel), List.mem_of_getElem? (i := 3213) (by decide +kernel)⟩
theorem lw_p249 : lw_okq (⟨"OptimaWorksModel", "spill", "()V"⟩, 163) := ⟨⟨by decide +kernel, by decide +kernel⟩, List.mem_of_getElem? (i := 2283) (by decide +kernel), List.mem_of_getElem? (i := 3216) (by decide +kernel), List.mem_of_getElem? (i := 3217) (by decide +kernel)⟩
theorem lw_p250 : lw_okq (⟨"OptimaWorksModel", "add", "(IIII)V"⟩, 163) := ⟨⟨by decide +kernel, by decide +kernel⟩, List.mem_of_getElem? (i := 2283) (by decide +kernel), List.mem_of_getElem? (i := 3220) (by decide +kernel), List.mem_of_getElem? (i := 3221) (by decide +kernel)⟩
theorem lw_p251 : lw_okq (⟨"OptimaWorksModel", "raise", "(I)Z"⟩, 163) := ⟨⟨by decide +kernel, by decide +kernel⟩, List.mem_of_getElem? (i := 2283) (by decide +kernel), List.mem_of_getElem? (i := 3224) (by decide +kernel), List.mem_of_getElem? (i := 3225) (by decide +kernel)⟩
theorem lw_p252 : lw_okq (⟨"OptimaWorksModel", "signAt", "(II)I"⟩, 163) := ⟨⟨by decide +kernel, by decide +kernel⟩, List.mem_of_getElem? (i := 2283) (by decide +kernel), List.mem_of_getElem? (i := 3228) (by decide +kernel), List.mem_of_getElem? (i := 3229) (by decide +kernel)⟩
theorem lw_p253 : lw_okq (⟨"OptimaWorksModel", "leaving", "(I)I"⟩, 163) := ⟨⟨by decide +kernel, by decide +kernel⟩, List.mem_of_getElem? (i := 2283) (by decide +kernel), List.mem_of_getElem? (i := 3232) (by decide +kernel), List.mem_of_getElem? (i := 3233) (by decide +kernel)⟩
theorem lw_p254 : lw_okq (⟨"OptimaWorksModel", "lies", "(III)I"⟩, 163) := ⟨⟨by decide +kernel, by decide +kernel⟩, List.mem_of_getElem? (i := 2283) (by decide +kernel), List.mem_of_getElem? (i := 3236) (by decide +kernel), List.mem_of_getElem? (i := 3237) (by decide +kernel)⟩
theorem lw_p255 : lw_okq (⟨"OptimaWorksModel", "tryIt", "()V"⟩, 163) := ⟨⟨by decide +kernel, by decide +kernel⟩, List.mem_of_getElem? (i := 2283) (by decide +kernel), List.mem_of_getElem? (i := 3240) (by decide +kernel), List.mem_of_getElem? (i := 3241) (by decide +kernel)⟩
def lw_privs_16 : List (MethodName × Nat) := [(⟨"OptimaWorksModel", "goalNumber", "(II)V"⟩, 163), (⟨"OptimaWorksModel", "canKeep", "()Z"⟩, 163), (⟨"OptimaWorksModel", "compare", "(II)I"⟩, 163), (⟨"OptimaWorksModel", "hasten", "()V"⟩, 163), (⟨"OptimaWorksModel", "worth", "(I)J"⟩, 163), (⟨"OptimaWorksModel", "pivot", "(II)V"⟩, 163), (⟨"OptimaWorksModel", "pivotsQuick", "(II)Z"⟩, 163), (⟨"OptimaWorksModel", "place1", "(II)I"⟩, 163), (⟨"OptimaWorksModel", "exchange", "(II)V"⟩, 163), (⟨"OptimaWorksModel", "spill", "()V"⟩, 163), (⟨"OptimaWorksModel", "add", "(IIII)V"⟩, 163), (⟨"OptimaWorksModel", "raise", "(I)Z"⟩, 163), (⟨"OptimaWorksModel", "signAt", "(II)I"⟩, 163), (⟨"OptimaWorksModel", "leaving", "(I)I"⟩, 163), (⟨"OptimaWorksModel", "lies", "(III)I"⟩, 163), (⟨"OptimaWorksModel", "tryIt", "()V"⟩, 163)]
theorem lw_r16 : ∀ q ∈ lw_privs_16, lw_okq q := List.forall_mem_cons.mpr ⟨lw_p240, List.forall_mem_cons.mpr ⟨lw_p241, List.forall_mem_cons.mpr ⟨lw_p242, List.forall_mem_cons.mpr ⟨lw_p243, List.forall_mem_cons.mpr ⟨lw_p244, List.forall_mem_cons.mpr ⟨lw_p245, List.forall_mem_cons.mpr ⟨lw_p246, List.forall_mem_cons.mpr ⟨lw_p247, List.forall_mem_cons.mpr ⟨lw_p248, List.forall_mem_cons.mpr ⟨lw_p249, List.forall_mem_cons.mpr ⟨lw_p250, List.forall_mem_cons.mpr ⟨lw_p251, List.forall_mem_cons.mpr ⟨lw_p252, List.forall_mem_cons.mpr ⟨lw_p253, List.forall_mem_cons.mpr ⟨lw_p254, List.forall_mem_cons.mpr ⟨lw_p255, fun _ h => absurd h List.not_mem_nil⟩⟩⟩⟩⟩⟩⟩⟩⟩⟩⟩⟩⟩⟩⟩⟩
theorem lw_p256 : lw_okq (⟨"OptimaWorksModel", "thing", "(II)V"⟩, 163) := ⟨⟨by decide +kernel, by decide +kernel⟩, List.mem_of_getElem? (i := 2283) (by decide +kernel), List.mem_of_getElem? (i := 3244) (by decide +kernel), List.mem_of_getElem? (i := 3245) (by decide +kernel)⟩
theorem lw_p257 : lw_okq (⟨"OptimaWorksModel", "goalOf", "(II)V"⟩, 163) := ⟨⟨by decide +kernel, by decide +kernel⟩, List.mem_of_getElem? (i := 2283) (by decide +kernel), List.mem_of_getElem? (i := 3248) (by decide +kernel), List.mem_of_getElem? (i := 3249) (by decide +kernel)⟩
theorem lw_p258 : lw_okq (⟨"OptimaWorksModel", "take", "()V"⟩, 163) := ⟨⟨by decide +kernel, by decide +kernel⟩, List.mem_of_getElem? (i := 2283) (by decide +kernel), List.mem_of_getElem? (i := 3252) (by decide +kernel), List.mem_of_getElem? (i := 3253) (by decide +kernel)⟩
theorem lw_p259 : lw_okq (⟨"OptimaWorksModel", "firstValues", "()V"⟩, 163) := ⟨⟨by decide +kernel, by decide +kernel⟩, List.mem_of_getElem? (i := 2283) (by decide +kernel), List.mem_of_getElem? (i := 3256) (by decide +kernel), List.mem_of_getElem? (i := 3257) (by decide +kernel)⟩
theorem lw_p260 : lw_okq (⟨"OptimaWorksModel", "firstWays", "()V"⟩, 163) := ⟨⟨by decide +kernel, by decide +kernel⟩, List.mem_of_getElem? (i := 2283) (by decide +kernel), List.mem_of_getElem? (i := 3260) (by decide +kernel), List.mem_of_getElem? (i := 3261) (by decide +kernel)⟩
theorem lw_p261 : lw_okq (⟨"OptimaWorksModel", "differ", "()Z"⟩, 163) := ⟨⟨by decide +kernel, by decide +kernel⟩, List.mem_of_getElem? (i := 2283) (by decide +kernel), List.mem_of_getElem? (i := 3264) (by decide +kernel), List.mem_of_getElem? (i := 3265) (by decide +kernel)⟩
theorem lw_p262 : lw_okq (⟨"OptimaWorksModel", "isBetter", "()Z"⟩, 163) := ⟨⟨by decide +kernel, by decide +kernel⟩, List.mem_of_getElem? (i := 2283) (by decide +kernel), List.mem_of_getElem? (i := 3268) (by decide +kernel), List.mem_of_getElem? (i := 3269) (by decide +kernel)⟩
theorem lw_p263 : lw_okq (⟨"OptimaWorksModel", "against", "(IIII)I"⟩, 163) := ⟨⟨by decide +kernel, by decide +kernel⟩, List.mem_of_getElem? (i := 2283) (by decide +kernel), List.mem_of_getElem? (i := 3272) (by decide +kernel), List.mem_of_getElem? (i := 3273) (by decide +kernel)⟩
theorem lw_p264 : lw_okq (⟨"OptimaWorksModel", "nextWays", "()Z"⟩, 163) := ⟨⟨by decide +kernel, by decide +kernel⟩, List.mem_of_getElem? (i := 2283) (by decide +kernel), List.mem_of_getElem? (i := 3276) (by decide +kernel), List.mem_of_getElem? (i := 3277) (by decide +kernel)⟩
theorem lw_p265 : lw_okq (⟨"OptimaWorksModel", "nextValues", "()Z"⟩, 163) := ⟨⟨by decide +kernel, by decide +kernel⟩, List.mem_of_getElem? (i := 2283) (by decide +kernel), List.mem_of_getElem? (i := 3280) (by decide +kernel), List.mem_of_getElem? (i := 3281) (by decide +kernel)⟩
theorem lw_p266 : lw_okq (⟨"OptimaWorksModel", "counts", "()Z"⟩, 163) := ⟨⟨by decide +kernel, by decide +kernel⟩, List.mem_of_getElem? (i := 2283) (by decide +kernel), List.mem_of_getElem? (i := 3288) (by decide +kernel), List.mem_of_getElem? (i := 3289) (by decide +kernel)⟩
theorem lw_p267 : lw_okq (⟨"OptimaWorksModel", "listNeeds", "()V"⟩, 163) := ⟨⟨by decide +kernel, by decide +kernel⟩, List.mem_of_getElem? (i := 2283) (by decide +kernel), List.mem_of_getElem? (i := 3300) (by decide +kernel), List.mem_of_getElem? (i := 3301) (by decide +kernel)⟩
theorem lw_p268 : lw_okq (⟨"OptimaWorksModel", "need1", "(II)V"⟩, 163) := ⟨⟨by decide +kernel, by decide +kernel⟩, List.mem_of_getElem? (i := 2283) (by decide +kernel), List.mem_of_getElem? (i := 3304) (by decide +kernel), List.mem_of_getElem? (i := 3305) (by decide +kernel)⟩
theorem lw_p269 : lw_okq (⟨"OptimaWorksModel", "best1", "()V"⟩, 163) := ⟨⟨by decide +kernel, by decide +kernel⟩, List.mem_of_getElem? (i := 2283) (by decide +kernel), List.mem_of_getElem? (i := 3308) (by decide +kernel), List.mem_of_getElem? (i := 3309) (by decide +kernel)⟩
theorem lw_p270 : lw_okq (⟨"OptimaWorksModel", "shorten", "(II)V"⟩, 163) := ⟨⟨by decide +kernel, by decide +kernel⟩, List.mem_of_getElem? (i := 2283) (by decide +kernel), List.mem_of_getElem? (i := 3312) (by decide +kernel), List.mem_of_getElem? (i := 3313) (by decide +kernel)⟩
theorem lw_p271 : lw_okq (⟨"OptimaWorksModel", "shortBest", "()V"⟩, 163) := ⟨⟨by decide +kernel, by decide +kernel⟩, List.mem_of_getElem? (i := 2283) (by decide +kernel), List.mem_of_getElem? (i := 3316) (by decide +kernel), List.mem_of_getElem? (i := 3317) (by decide +kernel)⟩
def lw_privs_17 : List (MethodName × Nat) := [(⟨"OptimaWorksModel", "thing", "(II)V"⟩, 163), (⟨"OptimaWorksModel", "goalOf", "(II)V"⟩, 163), (⟨"OptimaWorksModel", "take", "()V"⟩, 163), (⟨"OptimaWorksModel", "firstValues", "()V"⟩, 163), (⟨"OptimaWorksModel", "firstWays", "()V"⟩, 163), (⟨"OptimaWorksModel", "differ", "()Z"⟩, 163), (⟨"OptimaWorksModel", "isBetter", "()Z"⟩, 163), (⟨"OptimaWorksModel", "against", "(IIII)I"⟩, 163), (⟨"OptimaWorksModel", "nextWays", "()Z"⟩, 163), (⟨"OptimaWorksModel", "nextValues", "()Z"⟩, 163), (⟨"OptimaWorksModel", "counts", "()Z"⟩, 163), (⟨"OptimaWorksModel", "listNeeds", "()V"⟩, 163), (⟨"OptimaWorksModel", "need1", "(II)V"⟩, 163), (⟨"OptimaWorksModel", "best1", "()V"⟩, 163), (⟨"OptimaWorksModel", "shorten", "(II)V"⟩, 163), (⟨"OptimaWorksModel", "shortBest", "()V"⟩, 163)]
theorem lw_r17 : ∀ q ∈ lw_privs_17, lw_okq q := List.forall_mem_cons.mpr ⟨lw_p256, List.forall_mem_cons.mpr ⟨lw_p257, List.forall_mem_cons.mpr ⟨lw_p258, List.forall_mem_cons.mpr ⟨lw_p259, List.forall_mem_cons.mpr ⟨lw_p260, List.forall_mem_cons.mpr ⟨lw_p261, List.forall_mem_cons.mpr ⟨lw_p262, List.forall_mem_cons.mpr ⟨lw_p263, List.forall_mem_cons.mpr ⟨lw_p264, List.forall_mem_cons.mpr ⟨lw_p265, List.forall_mem_cons.mpr ⟨lw_p266, List.forall_mem_cons.mpr ⟨lw_p267, List.forall_mem_cons.mpr ⟨lw_p268, List.forall_mem_cons.mpr ⟨lw_p269, List.forall_mem_cons.mpr ⟨lw_p270, List.forall_mem_cons.mpr ⟨lw_p271, fun _ h => absurd h List.not_mem_nil⟩⟩⟩⟩⟩⟩⟩⟩⟩⟩⟩⟩⟩⟩⟩⟩
theorem lw_p272 : lw_okq (⟨"OptimaWorksModel", "addsUp", "()Z"⟩, 163) := ⟨⟨by decide +kernel, by decide +kernel⟩, List.mem_of_getElem? (i := 2283) (by decide +kernel), List.mem_of_getElem? (i := 3320) (by decide +kernel), List.mem_of_getElem? (i := 3321) (by decide +kernel)⟩
theorem lw_p273 : lw_okq (⟨"OptimaWorksModel", "isEqual", "(I)Z"⟩, 163) := ⟨⟨by decide +kernel, by decide +kernel⟩, List.mem_of_getElem? (i := 2283) (by decide +kernel), List.mem_of_getElem? (i := 3324) (by decide +kernel), List.mem_of_getElem? (i := 3325) (by decide +kernel)⟩
theorem lw_p274 : lw_okq (⟨"OptimaWorksModel", "needNumber", "(II)I"⟩, 163) := ⟨⟨by decide +kernel, by decide +kernel⟩, List.mem_of_getElem? (i := 2283) (by decide +kernel), List.mem_of_getElem? (i := 3328) (by decide +kernel), List.mem_of_getElem? (i := 3329) (by decide +kernel)⟩
theorem lw_p275 : lw_okq (⟨"OptimaWorksModel", "spread", "(IIII)V"⟩, 163) := ⟨⟨by decide +kernel, by decide +kernel⟩, List.mem_of_getElem? (i := 2283) (by decide +kernel), List.mem_of_getElem? (i := 3332) (by decide +kernel), List.mem_of_getElem? (i := 3333) (by decide +kernel)⟩
theorem lw_p276 : lw_okq (⟨"OptimaWorksModel", "proves", "()Z"⟩, 163) := ⟨⟨by decide +kernel, by decide +kernel⟩, List.mem_of_getElem? (i := 2283) (by decide +kernel), List.mem_of_getElem? (i := 3336) (by decide +kernel), List.mem_of_getElem? (i := 3337) (by decide +kernel)⟩
theorem lw_p277 : lw_okq (⟨"OptimaWorksModel", "multipliers", "()V"⟩, 163) := ⟨⟨by decide +kernel, by decide +kernel⟩, List.mem_of_getElem? (i := 2283) (by decide +kernel), List.mem_of_getElem? (i := 3340) (by decide +kernel), List.mem_of_getElem? (i := 3341) (by decide +kernel)⟩
theorem lw_p278 : lw_okq (⟨"OptimaWorksModel", "canTell", "(II)Z"⟩, 163) := ⟨⟨by decide +kernel, by decide +kernel⟩, List.mem_of_getElem? (i := 2283) (by decide +kernel), List.mem_of_getElem? (i := 3352) (by decide +kernel), List.mem_of_getElem? (i := 3353) (by decide +kernel)⟩
theorem lw_p279 : lw_okq (⟨"OptimaWorksModel", "sayFraction", "(II)V"⟩, 163) := ⟨⟨by decide +kernel, by decide +kernel⟩, List.mem_of_getElem? (i := 2283) (by decide +kernel), List.mem_of_getElem? (i := 3356) (by decide +kernel), List.mem_of_getElem? (i := 3357) (by decide +kernel)⟩
theorem lw_p280 : lw_okq (⟨"OptimaWorksModel", "say", "(I)V"⟩, 163) := ⟨⟨by decide +kernel, by decide +kernel⟩, List.mem_of_getElem? (i := 2283) (by decide +kernel), List.mem_of_getElem? (i := 3360) (by decide +kernel), List.mem_of_getElem? (i := 3361) (by decide +kernel)⟩
theorem lw_p281 : lw_okq (⟨"OptimaWorksModel", "sayBig", "(I)V"⟩, 163) := ⟨⟨by decide +kernel, by decide +kernel⟩, List.mem_of_getElem? (i := 2283) (by decide +kernel), List.mem_of_getElem? (i := 3364) (by decide +kernel), List.mem_of_getElem? (i := 3365) (by decide +kernel)⟩
theorem lw_p282 : lw_okq (⟨"OptimaWorksModel", "sayText", "(II)V"⟩, 163) := ⟨⟨by decide +kernel, by decide +kernel⟩, List.mem_of_getElem? (i := 2283) (by decide +kernel), List.mem_of_getElem? (i := 3385) (by decide +kernel), List.mem_of_getElem? (i := 3386) (by decide +kernel)⟩
theorem lw_p283 : lw_okq (⟨"OptimaWorksModel", "sayNumber", "(I)V"⟩, 163) := ⟨⟨by decide +kernel, by decide +kernel⟩, List.mem_of_getElem? (i := 2283) (by decide +kernel), List.mem_of_getElem? (i := 3393) (by decide +kernel), List.mem_of_getElem? (i := 3394) (by decide +kernel)⟩
theorem lw_p284 : lw_okq (⟨"OptimaWorksModel", "endLine", "()V"⟩, 163) := ⟨⟨by decide +kernel, by decide +kernel⟩, List.mem_of_getElem? (i := 2283) (by decide +kernel), List.mem_of_getElem? (i := 3397) (by decide +kernel), List.mem_of_getElem? (i := 3398) (by decide +kernel)⟩
theorem lw_p285 : lw_okq (⟨"OptimaWorksModel", "sayWay", "(I)V"⟩, 163) := ⟨⟨by decide +kernel, by decide +kernel⟩, List.mem_of_getElem? (i := 2283) (by decide +kernel), List.mem_of_getElem? (i := 3401) (by decide +kernel), List.mem_of_getElem? (i := 3402) (by decide +kernel)⟩
theorem lw_p286 : lw_okq (⟨"OptimaWorksModel", "sayTerm", "(IIIZ)V"⟩, 163) := ⟨⟨by decide +kernel, by decide +kernel⟩, List.mem_of_getElem? (i := 2283) (by decide +kernel), List.mem_of_getElem? (i := 3405) (by decide +kernel), List.mem_of_getElem? (i := 3406) (by decide +kernel)⟩
theorem lw_p287 : lw_okq (⟨"OptimaWorksModel", "sayPart", "(II)V"⟩, 163) := ⟨⟨by decide +kernel, by decide +kernel⟩, List.mem_of_getElem? (i := 2283) (by decide +kernel), List.mem_of_getElem? (i := 3409) (by decide +kernel), List.mem_of_getElem? (i := 3410) (by decide +kernel)⟩
def lw_privs_18 : List (MethodName × Nat) := [(⟨"OptimaWorksModel", "addsUp", "()Z"⟩, 163), (⟨"OptimaWorksModel", "isEqual", "(I)Z"⟩, 163), (⟨"OptimaWorksModel", "needNumber", "(II)I"⟩, 163), (⟨"OptimaWorksModel", "spread", "(IIII)V"⟩, 163), (⟨"OptimaWorksModel", "proves", "()Z"⟩, 163), (⟨"OptimaWorksModel", "multipliers", "()V"⟩, 163), (⟨"OptimaWorksModel", "canTell", "(II)Z"⟩, 163), (⟨"OptimaWorksModel", "sayFraction", "(II)V"⟩, 163), (⟨"OptimaWorksModel", "say", "(I)V"⟩, 163), (⟨"OptimaWorksModel", "sayBig", "(I)V"⟩, 163), (⟨"OptimaWorksModel", "sayText", "(II)V"⟩, 163), (⟨"OptimaWorksModel", "sayNumber", "(I)V"⟩, 163), (⟨"OptimaWorksModel", "endLine", "()V"⟩, 163), (⟨"OptimaWorksModel", "sayWay", "(I)V"⟩, 163), (⟨"OptimaWorksModel", "sayTerm", "(IIIZ)V"⟩, 163), (⟨"OptimaWorksModel", "sayPart", "(II)V"⟩, 163)]
theorem lw_r18 : ∀ q ∈ lw_privs_18, lw_okq q := List.forall_mem_cons.mpr ⟨lw_p272, List.forall_mem_cons.mpr ⟨lw_p273, List.forall_mem_cons.mpr ⟨lw_p274, List.forall_mem_cons.mpr ⟨lw_p275, List.forall_mem_cons.mpr ⟨lw_p276, List.forall_mem_cons.mpr ⟨lw_p277, List.forall_mem_cons.mpr ⟨lw_p278, List.forall_mem_cons.mpr ⟨lw_p279, List.forall_mem_cons.mpr ⟨lw_p280, List.forall_mem_cons.mpr ⟨lw_p281, List.forall_mem_cons.mpr ⟨lw_p282, List.forall_mem_cons.mpr ⟨lw_p283, List.forall_mem_cons.mpr ⟨lw_p284, List.forall_mem_cons.mpr ⟨lw_p285, List.forall_mem_cons.mpr ⟨lw_p286, List.forall_mem_cons.mpr ⟨lw_p287, fun _ h => absurd h List.not_mem_nil⟩⟩⟩⟩⟩⟩⟩⟩⟩⟩⟩⟩⟩⟩⟩⟩
theorem lw_p288 : lw_okq (⟨"OptimaWorksModel", "sayGoal", "(I)V"⟩, 163) := ⟨⟨by decide +kernel, by decide +kernel⟩, List.mem_of_getElem? (i := 2283) (by decide +kernel), List.mem_of_getElem? (i := 3413) (by decide +kernel), List.mem_of_getElem? (i := 3414) (by decide +kernel)⟩
theorem lw_p289 : lw_okq (⟨"OptimaWorksModel", "isRule", "(IIII)Z"⟩, 163) := ⟨⟨by decide +kernel, by decide +kernel⟩, List.mem_of_getElem? (i := 2283) (by decide +kernel), List.mem_of_getElem? (i := 3462) (by decide +kernel), List.mem_of_getElem? (i := 3463) (by decide +kernel)⟩
theorem lw_p290 : lw_okq (⟨"OptimaWorksModel", "isSet", "(I)Z"⟩, 163) := ⟨⟨by decide +kernel, by decide +kernel⟩, List.mem_of_getElem? (i := 2283) (by decide +kernel), List.mem_of_getElem? (i := 3466) (by decide +kernel), List.mem_of_getElem? (i := 3467) (by decide +kernel)⟩
theorem lw_p291 : lw_okq (⟨"OptimaWorksModel", "isHolder", "(I)Z"⟩, 163) := ⟨⟨by decide +kernel, by decide +kernel⟩, List.mem_of_getElem? (i := 2283) (by decide +kernel), List.mem_of_getElem? (i := 3470) (by decide +kernel), List.mem_of_getElem? (i := 3471) (by decide +kernel)⟩
theorem lw_p292 : lw_okq (⟨"OptimaWorksModel", "leaveAll", "()V"⟩, 163) := ⟨⟨by decide +kernel, by decide +kernel⟩, List.mem_of_getElem? (i := 2283) (by decide +kernel), List.mem_of_getElem? (i := 3487) (by decide +kernel), List.mem_of_getElem? (i := 3488) (by decide +kernel)⟩
theorem lw_p293 : lw_okq (⟨"OptimaWorksModel", "leave", "()V"⟩, 163) := ⟨⟨by decide +kernel, by decide +kernel⟩, List.mem_of_getElem? (i := 2283) (by decide +kernel), List.mem_of_getElem? (i := 3491) (by decide +kernel), List.mem_of_getElem? (i := 3492) (by decide +kernel)⟩
theorem lw_p294 : lw_okq (⟨"OptimaWorksModel", "scope", "(I)I"⟩, 163) := ⟨⟨by decide +kernel, by decide +kernel⟩, List.mem_of_getElem? (i := 2283) (by decide +kernel), List.mem_of_getElem? (i := 3495) (by decide +kernel), List.mem_of_getElem? (i := 3496) (by decide +kernel)⟩
theorem lw_p295 : lw_okq (⟨"OptimaWorksModel", "supports", "(III)Z"⟩, 163) := ⟨⟨by decide +kernel, by decide +kernel⟩, List.mem_of_getElem? (i := 2283) (by decide +kernel), List.mem_of_getElem? (i := 3499) (by decide +kernel), List.mem_of_getElem? (i := 3500) (by decide +kernel)⟩
theorem lw_p296 : lw_okq (⟨"OptimaWorksModel", "canHold", "(I)Z"⟩, 163) := ⟨⟨by decide +kernel, by decide +kernel⟩, List.mem_of_getElem? (i := 2283) (by decide +kernel), List.mem_of_getElem? (i := 3503) (by decide +kernel), List.mem_of_getElem? (i := 3504) (by decide +kernel)⟩
theorem lw_p297 : lw_okq (⟨"OptimaWorksModel", "canDiffer", "(I)Z"⟩, 163) := ⟨⟨by decide +kernel, by decide +kernel⟩, List.mem_of_getElem? (i := 2283) (by decide +kernel), List.mem_of_getElem? (i := 3507) (by decide +kernel), List.mem_of_getElem? (i := 3508) (by decide +kernel)⟩
theorem lw_p298 : lw_okq (⟨"OptimaWorksModel", "finds", "(I)Z"⟩, 163) := ⟨⟨by decide +kernel, by decide +kernel⟩, List.mem_of_getElem? (i := 2283) (by decide +kernel), List.mem_of_getElem? (i := 3511) (by decide +kernel), List.mem_of_getElem? (i := 3512) (by decide +kernel)⟩
theorem lw_p299 : lw_okq (⟨"OptimaWorksModel", "move", "(II)V"⟩, 163) := ⟨⟨by decide +kernel, by decide +kernel⟩, List.mem_of_getElem? (i := 2283) (by decide +kernel), List.mem_of_getElem? (i := 3515) (by decide +kernel), List.mem_of_getElem? (i := 3516) (by decide +kernel)⟩
theorem lw_p300 : lw_okq (⟨"OptimaWorksModel", "canOrder", "(III)Z"⟩, 163) := ⟨⟨by decide +kernel, by decide +kernel⟩, List.mem_of_getElem? (i := 2283) (by decide +kernel), List.mem_of_getElem? (i := 3519) (by decide +kernel), List.mem_of_getElem? (i := 3520) (by decide +kernel)⟩
theorem lw_p301 : lw_okq (⟨"OptimaWorksModel", "canSum", "(III)Z"⟩, 163) := ⟨⟨by decide +kernel, by decide +kernel⟩, List.mem_of_getElem? (i := 2283) (by decide +kernel), List.mem_of_getElem? (i := 3523) (by decide +kernel), List.mem_of_getElem? (i := 3524) (by decide +kernel)⟩
theorem lw_p302 : lw_okq (⟨"OptimaWorksModel", "must", "(II)I"⟩, 163) := ⟨⟨by decide +kernel, by decide +kernel⟩, List.mem_of_getElem? (i := 2283) (by decide +kernel), List.mem_of_getElem? (i := 3527) (by decide +kernel), List.mem_of_getElem? (i := 3528) (by decide +kernel)⟩
theorem lw_p303 : lw_okq (⟨"OptimaWorksModel", "canPair", "(I)Z"⟩, 163) := ⟨⟨by decide +kernel, by decide +kernel⟩, List.mem_of_getElem? (i := 2283) (by decide +kernel), List.mem_of_getElem? (i := 3531) (by decide +kernel), List.mem_of_getElem? (i := 3532) (by decide +kernel)⟩
def lw_privs_19 : List (MethodName × Nat) := [(⟨"OptimaWorksModel", "sayGoal", "(I)V"⟩, 163), (⟨"OptimaWorksModel", "isRule", "(IIII)Z"⟩, 163), (⟨"OptimaWorksModel", "isSet", "(I)Z"⟩, 163), (⟨"OptimaWorksModel", "isHolder", "(I)Z"⟩, 163), (⟨"OptimaWorksModel", "leaveAll", "()V"⟩, 163), (⟨"OptimaWorksModel", "leave", "()V"⟩, 163), (⟨"OptimaWorksModel", "scope", "(I)I"⟩, 163), (⟨"OptimaWorksModel", "supports", "(III)Z"⟩, 163), (⟨"OptimaWorksModel", "canHold", "(I)Z"⟩, 163), (⟨"OptimaWorksModel", "canDiffer", "(I)Z"⟩, 163), (⟨"OptimaWorksModel", "finds", "(I)Z"⟩, 163), (⟨"OptimaWorksModel", "move", "(II)V"⟩, 163), (⟨"OptimaWorksModel", "canOrder", "(III)Z"⟩, 163), (⟨"OptimaWorksModel", "canSum", "(III)Z"⟩, 163), (⟨"OptimaWorksModel", "must", "(II)I"⟩, 163), (⟨"OptimaWorksModel", "canPair", "(I)Z"⟩, 163)]
theorem lw_r19 : ∀ q ∈ lw_privs_19, lw_okq q := List.forall_mem_cons.mpr ⟨lw_p288, List.forall_mem_cons.mpr ⟨lw_p289, List.forall_mem_cons.mpr ⟨lw_p290, List.forall_mem_cons.mpr ⟨lw_p291, List.forall_mem_cons.mpr ⟨lw_p292, List.forall_mem_cons.mpr ⟨lw_p293, List.forall_mem_cons.mpr ⟨lw_p294, List.forall_mem_cons.mpr ⟨lw_p295, List.forall_mem_cons.mpr ⟨lw_p296, List.forall_mem_cons.mpr ⟨lw_p297, List.forall_mem_cons.mpr ⟨lw_p298, List.forall_mem_cons.mpr ⟨lw_p299, List.forall_mem_cons.mpr ⟨lw_p300, List.forall_mem_cons.mpr ⟨lw_p301, List.forall_mem_cons.mpr ⟨lw_p302, List.forall_mem_cons.mpr ⟨lw_p303, fun _ h => absurd h List.not_mem_nil⟩⟩⟩⟩⟩⟩⟩⟩⟩⟩⟩⟩⟩⟩⟩⟩
theorem lw_p304 : lw_okq (⟨"OptimaWorksModel", "list", "()I"⟩, 163) := ⟨⟨by decide +kernel, by decide +kernel⟩, List.mem_of_getElem? (i := 2283) (by decide +kernel), List.mem_of_getElem? (i := 3547) (by decide +kernel), List.mem_of_getElem? (i := 3548) (by decide +kernel)⟩
theorem lw_p305 : lw_okq (⟨"OptimaWorksModel", "above", "(I)I"⟩, 163) := ⟨⟨by decide +kernel, by decide +kernel⟩, List.mem_of_getElem? (i := 2283) (by decide +kernel), List.mem_of_getElem? (i := 3551) (by decide +kernel), List.mem_of_getElem? (i := 3552) (by decide +kernel)⟩
theorem lw_p306 : lw_okq (⟨"OptimaWorksModel", "keepsRule", "(I)Z"⟩, 163) := ⟨⟨by decide +kernel, by decide +kernel⟩, List.mem_of_getElem? (i := 2283) (by decide +kernel), List.mem_of_getElem? (i := 3555) (by decide +kernel), List.mem_of_getElem? (i := 3556) (by decide +kernel)⟩
theorem lw_p307 : lw_okq (⟨"OptimaWorksModel", "models", "(I)I"⟩, 163) := ⟨⟨by decide +kernel, by decide +kernel⟩, List.mem_of_getElem? (i := 2283) (by decide +kernel), List.mem_of_getElem? (i := 3576) (by decide +kernel), List.mem_of_getElem? (i := 3577) (by decide +kernel)⟩
theorem lw_p308 : lw_okq (⟨"OptimaWorksModel", "keeps", "(II)Z"⟩, 163) := ⟨⟨by decide +kernel, by decide +kernel⟩, List.mem_of_getElem? (i := 2283) (by decide +kernel), List.mem_of_getElem? (i := 3580) (by decide +kernel), List.mem_of_getElem? (i := 3581) (by decide +kernel)⟩
theorem lw_p309 : lw_okq (⟨"OptimaWorksModel", "core", "()I"⟩, 163) := ⟨⟨by decide +kernel, by decide +kernel⟩, List.mem_of_getElem? (i := 2283) (by decide +kernel), List.mem_of_getElem? (i := 3584) (by decide +kernel), List.mem_of_getElem? (i := 3585) (by decide +kernel)⟩
theorem lw_p310 : lw_okq (⟨"OptimaWorksModel", "cost", "(I)I"⟩, 163) := ⟨⟨by decide +kernel, by decide +kernel⟩, List.mem_of_getElem? (i := 2283) (by decide +kernel), List.mem_of_getElem? (i := 3588) (by decide +kernel), List.mem_of_getElem? (i := 3589) (by decide +kernel)⟩
theorem lw_p311 : lw_okq (⟨"OptimaWorksModel", "areEnds", "(II)Z"⟩, 163) := ⟨⟨by decide +kernel, by decide +kernel⟩, List.mem_of_getElem? (i := 2283) (by decide +kernel), List.mem_of_getElem? (i := 3607) (by decide +kernel), List.mem_of_getElem? (i := 3608) (by decide +kernel)⟩
theorem lw_p312 : lw_okq (⟨"OptimaWorksModel", "send", "(III)I"⟩, 163) := ⟨⟨by decide +kernel, by decide +kernel⟩, List.mem_of_getElem? (i := 2283) (by decide +kernel), List.mem_of_getElem? (i := 3612) (by decide +kernel), List.mem_of_getElem? (i := 3613) (by decide +kernel)⟩
theorem lw_p313 : lw_okq (⟨"OptimaWorksModel", "relax", "(IIII)Z"⟩, 163) := ⟨⟨by decide +kernel, by decide +kernel⟩, List.mem_of_getElem? (i := 2283) (by decide +kernel), List.mem_of_getElem? (i := 3617) (by decide +kernel), List.mem_of_getElem? (i := 3618) (by decide +kernel)⟩
theorem lw_p314 : lw_okq (⟨"OptimaWorksModel", "push", "(III)I"⟩, 163) := ⟨⟨by decide +kernel, by decide +kernel⟩, List.mem_of_getElem? (i := 2283) (by decide +kernel), List.mem_of_getElem? (i := 3621) (by decide +kernel), List.mem_of_getElem? (i := 3622) (by decide +kernel)⟩
theorem lw_p315 : lw_okq (⟨"OptimaWorksModel", "follows", "(I)I"⟩, 163) := ⟨⟨by decide +kernel, by decide +kernel⟩, List.mem_of_getElem? (i := 2283) (by decide +kernel), List.mem_of_getElem? (i := 3637) (by decide +kernel), List.mem_of_getElem? (i := 3638) (by decide +kernel)⟩
theorem lw_p316 : lw_okq (⟨"OptimaWorksModel", "tourCost", "(I)I"⟩, 163) := ⟨⟨by decide +kernel, by decide +kernel⟩, List.mem_of_getElem? (i := 2283) (by decide +kernel), List.mem_of_getElem? (i := 3649) (by decide +kernel), List.mem_of_getElem? (i := 3650) (by decide +kernel)⟩
theorem lw_p317 : lw_okq (⟨"OptimaWorksModel", "link", "(II)I"⟩, 163) := ⟨⟨by decide +kernel, by decide +kernel⟩, List.mem_of_getElem? (i := 2283) (by decide +kernel), List.mem_of_getElem? (i := 3653) (by decide +kernel), List.mem_of_getElem? (i := 3654) (by decide +kernel)⟩
theorem lw_p318 : lw_okq (⟨"OptimaWorksModel", "nextOrder", "(I)Z"⟩, 163) := ⟨⟨by decide +kernel, by decide +kernel⟩, List.mem_of_getElem? (i := 2283) (by decide +kernel), List.mem_of_getElem? (i := 3657) (by decide +kernel), List.mem_of_getElem? (i := 3658) (by decide +kernel)⟩
def lw_privs_20 : List (MethodName × Nat) := [(⟨"OptimaWorksModel", "list", "()I"⟩, 163), (⟨"OptimaWorksModel", "above", "(I)I"⟩, 163), (⟨"OptimaWorksModel", "keepsRule", "(I)Z"⟩, 163), (⟨"OptimaWorksModel", "models", "(I)I"⟩, 163), (⟨"OptimaWorksModel", "keeps", "(II)Z"⟩, 163), (⟨"OptimaWorksModel", "core", "()I"⟩, 163), (⟨"OptimaWorksModel", "cost", "(I)I"⟩, 163), (⟨"OptimaWorksModel", "areEnds", "(II)Z"⟩, 163), (⟨"OptimaWorksModel", "send", "(III)I"⟩, 163), (⟨"OptimaWorksModel", "relax", "(IIII)Z"⟩, 163), (⟨"OptimaWorksModel", "push", "(III)I"⟩, 163), (⟨"OptimaWorksModel", "follows", "(I)I"⟩, 163), (⟨"OptimaWorksModel", "tourCost", "(I)I"⟩, 163), (⟨"OptimaWorksModel", "link", "(II)I"⟩, 163), (⟨"OptimaWorksModel", "nextOrder", "(I)Z"⟩, 163)]
theorem lw_r20 : ∀ q ∈ lw_privs_20, lw_okq q := List.forall_mem_cons.mpr ⟨lw_p304, List.forall_mem_cons.mpr ⟨lw_p305, List.forall_mem_cons.mpr ⟨lw_p306, List.forall_mem_cons.mpr ⟨lw_p307, List.forall_mem_cons.mpr ⟨lw_p308, List.forall_mem_cons.mpr ⟨lw_p309, List.forall_mem_cons.mpr ⟨lw_p310, List.forall_mem_cons.mpr ⟨lw_p311, List.forall_mem_cons.mpr ⟨lw_p312, List.forall_mem_cons.mpr ⟨lw_p313, List.forall_mem_cons.mpr ⟨lw_p314, List.forall_mem_cons.mpr ⟨lw_p315, List.forall_mem_cons.mpr ⟨lw_p316, List.forall_mem_cons.mpr ⟨lw_p317, List.forall_mem_cons.mpr ⟨lw_p318, fun _ h => absurd h List.not_mem_nil⟩⟩⟩⟩⟩⟩⟩⟩⟩⟩⟩⟩⟩⟩⟩
def lw_privs : List (MethodName × Nat) := lw_privs_1 ++ (lw_privs_2 ++ (lw_privs_3 ++ (lw_privs_4 ++ (lw_privs_5 ++ (lw_privs_6 ++ (lw_privs_7 ++ (lw_privs_8 ++ (lw_privs_9 ++ (lw_privs_10 ++ (lw_privs_11 ++ (lw_privs_12 ++ (lw_privs_13 ++ (lw_privs_14 ++ (lw_privs_15 ++ (lw_privs_16 ++ (lw_privs_17 ++ (lw_privs_18 ++ (lw_privs_19 ++ (lw_privs_20)))))))))))))))))))
def lw_tbl : List Cond := k2_sels lw_privs ++ tables_1
theorem lw_privs_ok : ∀ q ∈ lw_privs, lw_okq q := by
  show ∀ q ∈ lw_privs_1 ++ (lw_privs_2 ++ (lw_privs_3 ++ (lw_privs_4 ++ (lw_privs_5 ++ (lw_privs_6 ++ (lw_privs_7 ++ (lw_privs_8 ++ (lw_privs_9 ++ (lw_privs_10 ++ (lw_privs_11 ++ (lw_privs_12 ++ (lw_privs_13 ++ (lw_privs_14 ++ (lw_privs_15 ++ (lw_privs_16 ++ (lw_privs_17 ++ (lw_privs_18 ++ (lw_privs_19 ++ (lw_privs_20))))))))))))))))))), lw_okq q
  exact List.forall_mem_append.mpr ⟨lw_r1, List.forall_mem_append.mpr ⟨lw_r2, List.forall_mem_append.mpr ⟨lw_r3, List.forall_mem_append.mpr ⟨lw_r4, List.forall_mem_append.mpr ⟨lw_r5, List.forall_mem_append.mpr ⟨lw_r6, List.forall_mem_append.mpr ⟨lw_r7, List.forall_mem_append.mpr ⟨lw_r8, List.forall_mem_append.mpr ⟨lw_r9, List.forall_mem_append.mpr ⟨lw_r10, List.forall_mem_append.mpr ⟨lw_r11, List.forall_mem_append.mpr ⟨lw_r12, List.forall_mem_append.mpr ⟨lw_r13, List.forall_mem_append.mpr ⟨lw_r14, List.forall_mem_append.mpr ⟨lw_r15, List.forall_mem_append.mpr ⟨lw_r16, List.forall_mem_append.mpr ⟨lw_r17, List.forall_mem_append.mpr ⟨lw_r18, List.forall_mem_append.mpr ⟨lw_r19, lw_r20⟩⟩⟩⟩⟩⟩⟩⟩⟩⟩⟩⟩⟩⟩⟩⟩⟩⟩⟩
end
section
/-! ===== BEGIN words of one list among another's, by their places ===== -/
theorem goodIn_r {big : List Cond} (ws : List Cond) (ps : List Nat) (hp : ws = ps.filterMap (fun i => big[i]?)) (h : ws.all goodWord = true) : GoodIn big ws := by
  intro w hw
  have h1 := List.all_eq_true.mp h w hw
  rw [hp] at hw
  obtain ⟨i, -, hi⟩ := List.mem_filterMap.mp hw
  have hm : w ∈ big := by first | exact List.mem_of_getElem? hi | exact List.getElem?_mem hi
  exact ⟨hm, good_of_word h1⟩
theorem goodIn_app {big a b : List Cond} (ha : GoodIn big a) (hb : GoodIn big b) : GoodIn big (a ++ b) := fun w h => (List.mem_append.mp h).elim (ha w) (hb w)
theorem goodIn_ca {big a b : List Cond} {c : Cond} (ha : GoodIn big (c :: a)) (hb : GoodIn big b) : GoodIn big (c :: (a ++ b)) := fun w h => (List.mem_cons.mp h).elim (fun e => ha w (List.mem_cons.mpr (Or.inl e))) (fun h => (List.mem_append.mp h).elim (fun h => ha w (List.mem_cons.mpr (Or.inr h))) (hb w))
theorem goodIn_sub {big ws : List Cond} (hm : ∀ w ∈ ws, w ∈ big) (h : ws.all goodWord = true) : GoodIn big ws := fun w hw => ⟨hm w hw, good_of_word (List.all_eq_true.mp h w hw)⟩
/-! ===== END ===== -/

/-! ===== BEGIN printed: names, fields, word lists, decode rows ===== -/
def RX0 : String := "OptimaWorks$ClauseDesk"
def TX0 : u_T := fun k => match k with
  | 0 => ("OptimaWorks$ClauseDesk", "clauses", "I", false)
  | 1 => ("OptimaWorks$ClauseDesk", "wants", "[I", true)
  | 2 => ("OptimaWorks$ClauseDesk", "wantsNot", "[I", true)
  | 3 => ("OptimaWorks$ClauseDesk", "weight", "[I", true)
  | 4 => ("OptimaWorks$ClauseDesk", "broken", "[I", true)
  | 5 => ("OptimaWorks$ClauseDesk", "loss", "[I", true)
  | _ => ("OptimaWorks$ClauseDesk", "musts", "I", false)
def tyX0 : Nat → FieldType := fun k => match k with
  | 0 => .int
  | 1 => .array .int
  | 2 => .array .int
  | 3 => .array .int
  | 4 => .array .int
  | 5 => .array .int
  | _ => .int
abbrev wsX00 : List Cond := u_ws RX0 TX0 7
theorem nmX0 : ∀ a, a < 7 → ∀ b, b < 7 → a ≠ b → (TX0 a).2.1 ≠ (TX0 b).2.1 := by decide +kernel
theorem tyX0_ok : ∀ k, k < 7 → parseFieldDescriptor (TX0 k).2.2.1 = some (tyX0 k) := by decide +kernel
abbrev cX0_init : ByteArray := prog_2_method_1_code
def yX0_init : MethodName := ⟨RX0, "<init>", "()V"⟩
abbrev cX0_addClause : ByteArray := prog_2_method_2_code
def yX0_addClause : MethodName := ⟨RX0, "addClause", "(III)I"⟩
abbrev cX0_dropClause : ByteArray := prog_2_method_3_code
def yX0_dropClause : MethodName := ⟨RX0, "dropClause", "()Z"⟩
abbrev cX0_mark : ByteArray := prog_2_method_4_code
def yX0_mark : MethodName := ⟨RX0, "mark", "(II)V"⟩
abbrev cX0_least : ByteArray := prog_2_method_5_code
def yX0_least : MethodName := ⟨RX0, "least", "(Z)I"⟩
abbrev cX0_models : ByteArray := prog_2_method_6_code
def yX0_models : MethodName := ⟨RX0, "models", "()I"⟩
abbrev cX0_core : ByteArray := prog_2_method_7_code
def yX0_core : MethodName := ⟨RX0, "core", "()I"⟩
abbrev cX0_canKeep : ByteArray := prog_2_method_8_code
def yX0_canKeep : MethodName := ⟨RX0, "canKeep", "(I)Z"⟩
def RX1 : String := "OptimaWorks$Model"
def TX1 : u_T := fun k => match k with
  | 0 => ("OptimaWorks$Model", "stands", "Z", false)
  | 1 => ("OptimaWorks$Model", "variables", "I", false)
  | 2 => ("OptimaWorks$Model", "rows", "I", false)
  | 3 => ("OptimaWorks$Model", "goals", "I", false)
  | 4 => ("OptimaWorks$Model", "differents", "I", false)
  | 5 => ("OptimaWorks$Model", "cases", "I", false)
  | 6 => ("OptimaWorks$Model", "from", "[I", true)
  | 7 => ("OptimaWorks$Model", "to", "[I", true)
  | 8 => ("OptimaWorks$Model", "whole", "[Z", true)
  | 9 => ("OptimaWorks$Model", "ways", "[I", true)
  | 10 => ("OptimaWorks$Model", "plainRows", "I", false)
  | 11 => ("OptimaWorks$Model", "plainRow", "[I", true)
  | 12 => ("OptimaWorks$Model", "kept", "[I", true)
  | 13 => ("OptimaWorks$Model", "goalOver", "[I", true)
  | 14 => ("OptimaWorks$Model", "goalUnder", "[I", true)
  | 15 => ("OptimaWorks$Model", "goalMax", "[Z", true)
  | _ => ("OptimaWorks$Model", "different", "[I", true)
def tyX1 : Nat → FieldType := fun k => match k with
  | 0 => .boolean
  | 1 => .int
  | 2 => .int
  | 3 => .int
  | 4 => .int
  | 5 => .int
  | 6 => .array .int
  | 7 => .array .int
  | 8 => .array .boolean
  | 9 => .array .int
  | 10 => .int
  | 11 => .array .int
  | 12 => .array .int
  | 13 => .array .int
  | 14 => .array .int
  | 15 => .array .boolean
  | _ => .array .int
abbrev wsX10 : List Cond := u_ws RX1 TX1 17
theorem nmX1 : ∀ a, a < 17 → ∀ b, b < 17 → a ≠ b → (TX1 a).2.1 ≠ (TX1 b).2.1 := by decide +kernel
theorem tyX1_ok : ∀ k, k < 17 → parseFieldDescriptor (TX1 k).2.2.1 = some (tyX1 k) := by decide +kernel
abbrev cX1_init : ByteArray := prog_3_method_1_code
def yX1_init : MethodName := ⟨RX1, "<init>", "()V"⟩
abbrev cX1_empty : ByteArray := prog_3_method_2_code
def yX1_empty : MethodName := ⟨RX1, "empty", "()V"⟩
abbrev cX1_number : ByteArray := prog_3_method_3_code
def yX1_number : MethodName := ⟨RX1, "number", "(III)I"⟩
abbrev cX1_rightSide : ByteArray := prog_3_method_4_code
def yX1_rightSide : MethodName := ⟨RX1, "rightSide", "(II)I"⟩
abbrev cX1_sign : ByteArray := prog_3_method_5_code
def yX1_sign : MethodName := ⟨RX1, "sign", "(II)I"⟩
abbrev cX1_clearWay : ByteArray := prog_3_method_6_code
def yX1_clearWay : MethodName := ⟨RX1, "clearWay", "(II)V"⟩
abbrev cX1_keepNumber : ByteArray := prog_3_method_7_code
def yX1_keepNumber : MethodName := ⟨RX1, "keepNumber", "(IIII)V"⟩
abbrev cX1_keepRight : ByteArray := prog_3_method_8_code
def yX1_keepRight : MethodName := ⟨RX1, "keepRight", "(IIII)V"⟩
abbrev cX1_range : ByteArray := prog_3_method_9_code
def yX1_range : MethodName := ⟨RX1, "range", "(I)I"⟩
abbrev cX1_addRow : ByteArray := prog_3_method_10_code
def yX1_addRow : MethodName := ⟨RX1, "addRow", "(I)V"⟩
abbrev cX1_needs : ByteArray := prog_3_method_11_code
def yX1_needs : MethodName := ⟨RX1, "needs", "()I"⟩
abbrev cX1_needKind : ByteArray := prog_3_method_12_code
def yX1_needKind : MethodName := ⟨RX1, "needKind", "(I)I"⟩
abbrev cX1_needOf : ByteArray := prog_3_method_13_code
def yX1_needOf : MethodName := ⟨RX1, "needOf", "(I)I"⟩
abbrev cX1_isEvenNeed : ByteArray := prog_3_method_14_code
def yX1_isEvenNeed : MethodName := ⟨RX1, "isEvenNeed", "(I)Z"⟩
abbrev cX1_isTurned : ByteArray := prog_3_method_15_code
def yX1_isTurned : MethodName := ⟨RX1, "isTurned", "(I)Z"⟩
abbrev cX1_needNumber : ByteArray := prog_3_method_16_code
def yX1_needNumber : MethodName := ⟨RX1, "needNumber", "(II)I"⟩
abbrev cX1_needBound : ByteArray := prog_3_method_17_code
def yX1_needBound : MethodName := ⟨RX1, "needBound", "(I)I"⟩
def RX2 : String := "OptimaWorks$NetDesk"
def TX2 : u_T := fun k => match k with
  | 0 => ("OptimaWorks$NetDesk", "arcs", "I", false)
  | 1 => ("OptimaWorks$NetDesk", "from", "[I", true)
  | 2 => ("OptimaWorks$NetDesk", "to", "[I", true)
  | 3 => ("OptimaWorks$NetDesk", "room", "[I", true)
  | 4 => ("OptimaWorks$NetDesk", "cost", "[I", true)
  | 5 => ("OptimaWorks$NetDesk", "reached", "I", false)
  | 6 => ("OptimaWorks$NetDesk", "free", "[I", true)
  | 7 => ("OptimaWorks$NetDesk", "before", "[I", true)
  | 8 => ("OptimaWorks$NetDesk", "flow", "[I", true)
  | 9 => ("OptimaWorks$NetDesk", "length", "[I", true)
  | 10 => ("OptimaWorks$NetDesk", "stop", "[I", true)
  | 11 => ("OptimaWorks$NetDesk", "stops", "I", false)
  | 12 => ("OptimaWorks$NetDesk", "price", "[I", true)
  | _ => ("OptimaWorks$NetDesk", "rest", "[I", true)
def tyX2 : Nat → FieldType := fun k => match k with
  | 0 => .int
  | 1 => .array .int
  | 2 => .array .int
  | 3 => .array .int
  | 4 => .array .int
  | 5 => .int
  | 6 => .array .int
  | 7 => .array .int
  | 8 => .array .int
  | 9 => .array .int
  | 10 => .array .int
  | 11 => .int
  | 12 => .array .int
  | _ => .array .int
abbrev wsX20 : List Cond := u_ws RX2 TX2 14
theorem nmX2 : ∀ a, a < 14 → ∀ b, b < 14 → a ≠ b → (TX2 a).2.1 ≠ (TX2 b).2.1 := by decide +kernel
theorem tyX2_ok : ∀ k, k < 14 → parseFieldDescriptor (TX2 k).2.2.1 = some (tyX2 k) := by decide +kernel
abbrev cX2_init : ByteArray := prog_4_method_1_code
def yX2_init : MethodName := ⟨RX2, "<init>", "()V"⟩
abbrev cX2_addArc : ByteArray := prog_4_method_2_code
def yX2_addArc : MethodName := ⟨RX2, "addArc", "(IIII)I"⟩
abbrev cX2_dropArc : ByteArray := prog_4_method_3_code
def yX2_dropArc : MethodName := ⟨RX2, "dropArc", "()Z"⟩
abbrev cX2_fill : ByteArray := prog_4_method_4_code
def yX2_fill : MethodName := ⟨RX2, "fill", "(II)I"⟩
abbrev cX2_reach : ByteArray := prog_4_method_5_code
def yX2_reach : MethodName := ⟨RX2, "reach", "(II)Z"⟩
abbrev cX2_leastCost : ByteArray := prog_4_method_6_code
def yX2_leastCost : MethodName := ⟨RX2, "leastCost", "(III)I"⟩
abbrev cX2_measure : ByteArray := prog_4_method_7_code
def yX2_measure : MethodName := ⟨RX2, "measure", "(I)V"⟩
abbrev cX2_push : ByteArray := prog_4_method_8_code
def yX2_push : MethodName := ⟨RX2, "push", "(III)I"⟩
abbrev cX2_shortest : ByteArray := prog_4_method_9_code
def yX2_shortest : MethodName := ⟨RX2, "shortest", "(III)I"⟩
abbrev cX2_measureBack : ByteArray := prog_4_method_10_code
def yX2_measureBack : MethodName := ⟨RX2, "measureBack", "(I)V"⟩
abbrev cX2_nextNode : ByteArray := prog_4_method_11_code
def yX2_nextNode : MethodName := ⟨RX2, "nextNode", "(I)I"⟩
abbrev cX2_treeArcs : ByteArray := prog_4_method_12_code
def yX2_treeArcs : MethodName := ⟨RX2, "treeArcs", "()J"⟩
abbrev cX2_cheapestUnseen : ByteArray := prog_4_method_13_code
def yX2_cheapestUnseen : MethodName := ⟨RX2, "cheapestUnseen", "(J)I"⟩
abbrev cX2_round : ByteArray := prog_4_method_14_code
def yX2_round : MethodName := ⟨RX2, "round", "(II)I"⟩
abbrev cX2_takeStops : ByteArray := prog_4_method_15_code
def yX2_takeStops : MethodName := ⟨RX2, "takeStops", "(I)V"⟩
abbrev cX2_takePrices : ByteArray := prog_4_method_16_code
def yX2_takePrices : MethodName := ⟨RX2, "takePrices", "()V"⟩
abbrev cX2_restFrom : ByteArray := prog_4_method_17_code
def yX2_restFrom : MethodName := ⟨RX2, "restFrom", "(II)I"⟩
abbrev cX2_costOver : ByteArray := prog_4_method_18_code
def yX2_costOver : MethodName := ⟨RX2, "costOver", "(III)I"⟩
abbrev cX2_nextStop : ByteArray := prog_4_method_19_code
def yX2_nextStop : MethodName := ⟨RX2, "nextStop", "(II)I"⟩
def RX3 : String := "OptimaWorks$Prover"
def TX3 : u_T := fun k => match k with
  | 0 => ("OptimaWorks$Prover", "model", "LOptimaWorks$Model;", true)
  | 1 => ("OptimaWorks$Prover", "solver", "LOptimaWorks$Solver;", true)
  | 2 => ("OptimaWorks$Prover", "tableau", "LOptimaWorks$Tableau;", true)
  | 3 => ("OptimaWorks$Prover", "made", "Z", false)
  | 4 => ("OptimaWorks$Prover", "keptNeeds", "I", false)
  | 5 => ("OptimaWorks$Prover", "kept", "[Z", true)
  | 6 => ("OptimaWorks$Prover", "multiplier", "[LOptimaWorks$Whole;", true)
  | 7 => ("OptimaWorks$Prover", "multiplierUnder", "LOptimaWorks$Whole;", true)
  | 8 => ("OptimaWorks$Prover", "proved", "LOptimaWorks$Whole;", true)
  | 9 => ("OptimaWorks$Prover", "provedUnder", "LOptimaWorks$Whole;", true)
  | 10 => ("OptimaWorks$Prover", "place", "[LOptimaWorks$Whole;", true)
  | 11 => ("OptimaWorks$Prover", "shortfall", "LOptimaWorks$Whole;", true)
  | 12 => ("OptimaWorks$Prover", "under", "LOptimaWorks$Whole;", true)
  | 13 => ("OptimaWorks$Prover", "leftOver", "LOptimaWorks$Whole;", true)
  | 14 => ("OptimaWorks$Prover", "need", "[I", true)
  | 15 => ("OptimaWorks$Prover", "turn", "[I", true)
  | _ => ("OptimaWorks$Prover", "columns", "I", false)
def tyX3 : Nat → FieldType := fun k => match k with
  | 0 => .object "OptimaWorks$Model"
  | 1 => .object "OptimaWorks$Solver"
  | 2 => .object "OptimaWorks$Tableau"
  | 3 => .boolean
  | 4 => .int
  | 5 => .array .boolean
  | 6 => .array (.object "OptimaWorks$Whole")
  | 7 => .object "OptimaWorks$Whole"
  | 8 => .object "OptimaWorks$Whole"
  | 9 => .object "OptimaWorks$Whole"
  | 10 => .array (.object "OptimaWorks$Whole")
  | 11 => .object "OptimaWorks$Whole"
  | 12 => .object "OptimaWorks$Whole"
  | 13 => .object "OptimaWorks$Whole"
  | 14 => .array .int
  | 15 => .array .int
  | _ => .int
abbrev wsX30 : List Cond := u_ws RX3 TX3 17
theorem nmX3 : ∀ a, a < 17 → ∀ b, b < 17 → a ≠ b → (TX3 a).2.1 ≠ (TX3 b).2.1 := by decide +kernel
theorem tyX3_ok : ∀ k, k < 17 → parseFieldDescriptor (TX3 k).2.2.1 = some (tyX3 k) := by decide +kernel
abbrev cX3_init : ByteArray := prog_5_method_1_code
def yX3_init : MethodName := ⟨RX3, "<init>", "(LOptimaWorks$Model;LOptimaWorks$Solver;)V"⟩
abbrev cX3_forget : ByteArray := prog_5_method_2_code
def yX3_forget : MethodName := ⟨RX3, "forget", "()V"⟩
abbrev cX3_makeProof : ByteArray := prog_5_method_3_code
def yX3_makeProof : MethodName := ⟨RX3, "makeProof", "()I"⟩
abbrev cX3_findBest : ByteArray := prog_5_method_4_code
def yX3_findBest : MethodName := ⟨RX3, "findBest", "()V"⟩
abbrev cX3_findShortfall : ByteArray := prog_5_method_5_code
def yX3_findShortfall : MethodName := ⟨RX3, "findShortfall", "()V"⟩
abbrev cX3_layNeed : ByteArray := prog_5_method_6_code
def yX3_layNeed : MethodName := ⟨RX3, "layNeed", "(III)V"⟩
abbrev cX3_takeColumn : ByteArray := prog_5_method_7_code
def yX3_takeColumn : MethodName := ⟨RX3, "takeColumn", "(LOptimaWorks$Whole;I)V"⟩
abbrev cX3_chooseColumns : ByteArray := prog_5_method_8_code
def yX3_chooseColumns : MethodName := ⟨RX3, "chooseColumns", "(Z)V"⟩
abbrev cX3_isTight : ByteArray := prog_5_method_9_code
def yX3_isTight : MethodName := ⟨RX3, "isTight", "(IIZ)Z"⟩
abbrev cX3_layMultipliers : ByteArray := prog_5_method_10_code
def yX3_layMultipliers : MethodName := ⟨RX3, "layMultipliers", "(Z)V"⟩
abbrev cX3_canSink : ByteArray := prog_5_method_11_code
def yX3_canSink : MethodName := ⟨RX3, "canSink", "(I)Z"⟩
abbrev cX3_dropNeed : ByteArray := prog_5_method_12_code
def yX3_dropNeed : MethodName := ⟨RX3, "dropNeed", "(I)V"⟩
abbrev cX3_takeMultipliers : ByteArray := prog_5_method_13_code
def yX3_takeMultipliers : MethodName := ⟨RX3, "takeMultipliers", "()V"⟩
abbrev cX3_tellProved : ByteArray := prog_5_method_14_code
def yX3_tellProved : MethodName := ⟨RX3, "tellProved", "()V"⟩
abbrev cX3_tellMultiplier : ByteArray := prog_5_method_15_code
def yX3_tellMultiplier : MethodName := ⟨RX3, "tellMultiplier", "(I)V"⟩
def RX4 : String := "OptimaWorks$Reader"
def TX4 : u_T := fun k => match k with
  | 0 => ("OptimaWorks$Reader", "words", "LOptimaWorks$Words;", true)
  | 1 => ("OptimaWorks$Reader", "model", "LOptimaWorks$Model;", true)
  | 2 => ("OptimaWorks$Reader", "worker", "LOptimaWorks$Worker;", true)
  | 3 => ("OptimaWorks$Reader", "tree", "[I", false)
  | 4 => ("OptimaWorks$Reader", "used", "I", false)
  | 5 => ("OptimaWorks$Reader", "depth", "I", false)
  | 6 => ("OptimaWorks$Reader", "ownName", "J", false)
  | 7 => ("OptimaWorks$Reader", "binder", "[J", true)
  | 8 => ("OptimaWorks$Reader", "binders", "I", false)
  | 9 => ("OptimaWorks$Reader", "firstSet", "I", false)
  | _ => ("OptimaWorks$Reader", "secondSet", "I", false)
def tyX4 : Nat → FieldType := fun k => match k with
  | 0 => .object "OptimaWorks$Words"
  | 1 => .object "OptimaWorks$Model"
  | 2 => .object "OptimaWorks$Worker"
  | 3 => .array .int
  | 4 => .int
  | 5 => .int
  | 6 => .long
  | 7 => .array .long
  | 8 => .int
  | 9 => .int
  | _ => .int
abbrev wsX40 : List Cond := u_ws RX4 TX4 11
theorem nmX4 : ∀ a, a < 11 → ∀ b, b < 11 → a ≠ b → (TX4 a).2.1 ≠ (TX4 b).2.1 := by decide +kernel
theorem tyX4_ok : ∀ k, k < 11 → parseFieldDescriptor (TX4 k).2.2.1 = some (tyX4 k) := by decide +kernel
abbrev cX4_init : ByteArray := prog_6_method_1_code
def yX4_init : MethodName := ⟨RX4, "<init>", "(LOptimaWorks$Words;LOptimaWorks$Model;)V"⟩
abbrev cX4_readAll : ByteArray := prog_6_method_2_code
def yX4_readAll : MethodName := ⟨RX4, "readAll", "()Z"⟩
abbrev cX4_makeRoom : ByteArray := prog_6_method_3_code
def yX4_makeRoom : MethodName := ⟨RX4, "makeRoom", "()V"⟩
abbrev cX4_node : ByteArray := prog_6_method_4_code
def yX4_node : MethodName := ⟨RX4, "node", "(I)I"⟩
abbrev cX4_takeNewName : ByteArray := prog_6_method_5_code
def yX4_takeNewName : MethodName := ⟨RX4, "takeNewName", "()V"⟩
abbrev cX4_takeSetName : ByteArray := prog_6_method_6_code
def yX4_takeSetName : MethodName := ⟨RX4, "takeSetName", "()I"⟩
abbrev cX4_takePlaces : ByteArray := prog_6_method_7_code
def yX4_takePlaces : MethodName := ⟨RX4, "takePlaces", "()V"⟩
abbrev cX4_readSet : ByteArray := prog_6_method_8_code
def yX4_readSet : MethodName := ⟨RX4, "readSet", "()V"⟩
abbrev cX4_takeWholeNumber : ByteArray := prog_6_method_9_code
def yX4_takeWholeNumber : MethodName := ⟨RX4, "takeWholeNumber", "()I"⟩
abbrev cX4_readParam : ByteArray := prog_6_method_10_code
def yX4_readParam : MethodName := ⟨RX4, "readParam", "()V"⟩
abbrev cX4_readVar : ByteArray := prog_6_method_11_code
def yX4_readVar : MethodName := ⟨RX4, "readVar", "()V"⟩
abbrev cX4_readRow : ByteArray := prog_6_method_12_code
def yX4_readRow : MethodName := ⟨RX4, "readRow", "()V"⟩
abbrev cX4_readDifferent : ByteArray := prog_6_method_13_code
def yX4_readDifferent : MethodName := ⟨RX4, "readDifferent", "()V"⟩
abbrev cX4_takeWholeVar : ByteArray := prog_6_method_14_code
def yX4_takeWholeVar : MethodName := ⟨RX4, "takeWholeVar", "()I"⟩
abbrev cX4_readGoal : ByteArray := prog_6_method_15_code
def yX4_readGoal : MethodName := ⟨RX4, "readGoal", "()V"⟩
abbrev cX4_binding : ByteArray := prog_6_method_16_code
def yX4_binding : MethodName := ⟨RX4, "binding", "()I"⟩
abbrev cX4_addBinder : ByteArray := prog_6_method_17_code
def yX4_addBinder : MethodName := ⟨RX4, "addBinder", "()V"⟩
abbrev cX4_findBinder : ByteArray := prog_6_method_18_code
def yX4_findBinder : MethodName := ⟨RX4, "findBinder", "(J)I"⟩
abbrev cX4_deeper : ByteArray := prog_6_method_19_code
def yX4_deeper : MethodName := ⟨RX4, "deeper", "(Z)V"⟩
abbrev cX4_refuseNoFactor : ByteArray := prog_6_method_20_code
def yX4_refuseNoFactor : MethodName := ⟨RX4, "refuseNoFactor", "()V"⟩
abbrev cX4_linear : ByteArray := prog_6_method_21_code
def yX4_linear : MethodName := ⟨RX4, "linear", "()I"⟩
abbrev cX4_term : ByteArray := prog_6_method_22_code
def yX4_term : MethodName := ⟨RX4, "term", "()I"⟩
abbrev cX4_link : ByteArray := prog_6_method_23_code
def yX4_link : MethodName := ⟨RX4, "link", "(IIII)V"⟩
abbrev cX4_factor : ByteArray := prog_6_method_24_code
def yX4_factor : MethodName := ⟨RX4, "factor", "()I"⟩
abbrev cX4_named : ByteArray := prog_6_method_25_code
def yX4_named : MethodName := ⟨RX4, "named", "()I"⟩
abbrev cX4_summed : ByteArray := prog_6_method_26_code
def yX4_summed : MethodName := ⟨RX4, "summed", "()I"⟩
abbrev cX4_anyOf : ByteArray := prog_6_method_27_code
def yX4_anyOf : MethodName := ⟨RX4, "anyOf", "()I"⟩
abbrev cX4_allOf : ByteArray := prog_6_method_28_code
def yX4_allOf : MethodName := ⟨RX4, "allOf", "()I"⟩
abbrev cX4_oneOf : ByteArray := prog_6_method_29_code
def yX4_oneOf : MethodName := ⟨RX4, "oneOf", "()I"⟩
abbrev cX4_comparison : ByteArray := prog_6_method_30_code
def yX4_comparison : MethodName := ⟨RX4, "comparison", "(Z)I"⟩
def RX5 : String := "OptimaWorks$Solver"
def TX5 : u_T := fun k => match k with
  | 0 => ("OptimaWorks$Solver", "model", "LOptimaWorks$Model;", true)
  | 1 => ("OptimaWorks$Solver", "tableau", "LOptimaWorks$Tableau;", true)
  | 2 => ("OptimaWorks$Solver", "answered", "Z", false)
  | 3 => ("OptimaWorks$Solver", "searched", "Z", false)
  | 4 => ("OptimaWorks$Solver", "searchedRelaxed", "Z", false)
  | 5 => ("OptimaWorks$Solver", "counted", "I", false)
  | 6 => ("OptimaWorks$Solver", "countedCase", "[I", true)
  | 7 => ("OptimaWorks$Solver", "goalNumber", "[J", true)
  | 8 => ("OptimaWorks$Solver", "goalScale", "[J", true)
  | 9 => ("OptimaWorks$Solver", "start", "[I", true)
  | 10 => ("OptimaWorks$Solver", "column", "[I", true)
  | 11 => ("OptimaWorks$Solver", "chosen", "[I", true)
  | 12 => ("OptimaWorks$Solver", "answer", "[LOptimaWorks$Whole;", true)
  | 13 => ("OptimaWorks$Solver", "answerGoal", "[LOptimaWorks$Whole;", true)
  | 14 => ("OptimaWorks$Solver", "answerUnder", "LOptimaWorks$Whole;", true)
  | 15 => ("OptimaWorks$Solver", "trial", "[LOptimaWorks$Whole;", true)
  | 16 => ("OptimaWorks$Solver", "top", "LOptimaWorks$Whole;", true)
  | 17 => ("OptimaWorks$Solver", "bottom", "LOptimaWorks$Whole;", true)
  | _ => ("OptimaWorks$Solver", "spare", "[LOptimaWorks$Whole;", true)
def tyX5 : Nat → FieldType := fun k => match k with
  | 0 => .object "OptimaWorks$Model"
  | 1 => .object "OptimaWorks$Tableau"
  | 2 => .boolean
  | 3 => .boolean
  | 4 => .boolean
  | 5 => .int
  | 6 => .array .int
  | 7 => .array .long
  | 8 => .array .long
  | 9 => .array .int
  | 10 => .array .int
  | 11 => .array .int
  | 12 => .array (.object "OptimaWorks$Whole")
  | 13 => .array (.object "OptimaWorks$Whole")
  | 14 => .object "OptimaWorks$Whole"
  | 15 => .array (.object "OptimaWorks$Whole")
  | 16 => .object "OptimaWorks$Whole"
  | 17 => .object "OptimaWorks$Whole"
  | _ => .array (.object "OptimaWorks$Whole")
abbrev wsX50 : List Cond := u_ws RX5 TX5 19
theorem nmX5 : ∀ a, a < 19 → ∀ b, b < 19 → a ≠ b → (TX5 a).2.1 ≠ (TX5 b).2.1 := by decide +kernel
theorem tyX5_ok : ∀ k, k < 19 → parseFieldDescriptor (TX5 k).2.2.1 = some (tyX5 k) := by decide +kernel
abbrev cX5_init : ByteArray := prog_7_method_1_code
def yX5_init : MethodName := ⟨RX5, "<init>", "(LOptimaWorks$Model;)V"⟩
abbrev cX5_wholes : ByteArray := prog_7_method_2_code
def yX5_wholes : MethodName := ⟨RX5, "wholes", "(I)[LOptimaWorks$Whole;"⟩
abbrev cX5_forget : ByteArray := prog_7_method_3_code
def yX5_forget : MethodName := ⟨RX5, "forget", "()V"⟩
abbrev cX5_findAnswer : ByteArray := prog_7_method_4_code
def yX5_findAnswer : MethodName := ⟨RX5, "findAnswer", "(Z)Z"⟩
abbrev cX5_scaleGoals : ByteArray := prog_7_method_5_code
def yX5_scaleGoals : MethodName := ⟨RX5, "scaleGoals", "()V"⟩
abbrev cX5_scaleOf : ByteArray := prog_7_method_6_code
def yX5_scaleOf : MethodName := ⟨RX5, "scaleOf", "(I)J"⟩
abbrev cX5_scaledNumber : ByteArray := prog_7_method_7_code
def yX5_scaledNumber : MethodName := ⟨RX5, "scaledNumber", "(II)J"⟩
abbrev cX5_choose : ByteArray := prog_7_method_8_code
def yX5_choose : MethodName := ⟨RX5, "choose", "(I)Z"⟩
abbrev cX5_allDiffer : ByteArray := prog_7_method_9_code
def yX5_allDiffer : MethodName := ⟨RX5, "allDiffer", "()Z"⟩
abbrev cX5_differ : ByteArray := prog_7_method_10_code
def yX5_differ : MethodName := ⟨RX5, "differ", "(I)Z"⟩
abbrev cX5_lay : ByteArray := prog_7_method_11_code
def yX5_lay : MethodName := ⟨RX5, "lay", "(ZI)Z"⟩
abbrev cX5_layWay : ByteArray := prog_7_method_12_code
def yX5_layWay : MethodName := ⟨RX5, "layWay", "(III)Z"⟩
abbrev cX5_layGoal : ByteArray := prog_7_method_13_code
def yX5_layGoal : MethodName := ⟨RX5, "layGoal", "(II)V"⟩
abbrev cX5_settle : ByteArray := prog_7_method_14_code
def yX5_settle : MethodName := ⟨RX5, "settle", "(Z)Z"⟩
abbrev cX5_goalRow : ByteArray := prog_7_method_15_code
def yX5_goalRow : MethodName := ⟨RX5, "goalRow", "(I)I"⟩
abbrev cX5_tryAnswer : ByteArray := prog_7_method_16_code
def yX5_tryAnswer : MethodName := ⟨RX5, "tryAnswer", "()V"⟩
abbrev cX5_compare : ByteArray := prog_7_method_17_code
def yX5_compare : MethodName := ⟨RX5, "compare", "(LOptimaWorks$Whole;LOptimaWorks$Whole;)I"⟩
abbrev cX5_takeNumbers : ByteArray := prog_7_method_18_code
def yX5_takeNumbers : MethodName := ⟨RX5, "takeNumbers", "([LOptimaWorks$Whole;)V"⟩
abbrev cX5_keepAnswer : ByteArray := prog_7_method_19_code
def yX5_keepAnswer : MethodName := ⟨RX5, "keepAnswer", "()V"⟩
abbrev cX5_firstWay : ByteArray := prog_7_method_20_code
def yX5_firstWay : MethodName := ⟨RX5, "firstWay", "(I)I"⟩
abbrev cX5_addTimes : ByteArray := prog_7_method_21_code
def yX5_addTimes : MethodName := ⟨RX5, "addTimes", "(LOptimaWorks$Whole;LOptimaWorks$Whole;J)V"⟩
abbrev cX5_tellNumber : ByteArray := prog_7_method_22_code
def yX5_tellNumber : MethodName := ⟨RX5, "tellNumber", "(I)V"⟩
abbrev cX5_tellGoal : ByteArray := prog_7_method_23_code
def yX5_tellGoal : MethodName := ⟨RX5, "tellGoal", "(I)V"⟩
abbrev cX5_setGoal : ByteArray := prog_7_method_24_code
def yX5_setGoal : MethodName := ⟨RX5, "setGoal", "(ILOptimaWorks$Whole;LOptimaWorks$Whole;)V"⟩
abbrev cX5_shortenTold : ByteArray := prog_7_method_25_code
def yX5_shortenTold : MethodName := ⟨RX5, "shortenTold", "()V"⟩
abbrev cX5_countRows : ByteArray := prog_7_method_26_code
def yX5_countRows : MethodName := ⟨RX5, "countRows", "()I"⟩
abbrev cX5_countedNumber : ByteArray := prog_7_method_27_code
def yX5_countedNumber : MethodName := ⟨RX5, "countedNumber", "(II)I"⟩
def RX6 : String := "OptimaWorks$Tableau"
def TX6 : u_T := fun k => match k with
  | 0 => ("OptimaWorks$Tableau", "cell", "[LOptimaWorks$Whole;", true)
  | 1 => ("OptimaWorks$Tableau", "inside", "[I", true)
  | 2 => ("OptimaWorks$Tableau", "outside", "[I", true)
  | 3 => ("OptimaWorks$Tableau", "shut", "[Z", true)
  | 4 => ("OptimaWorks$Tableau", "under", "LOptimaWorks$Whole;", true)
  | 5 => ("OptimaWorks$Tableau", "rows", "I", false)
  | 6 => ("OptimaWorks$Tableau", "allRows", "I", false)
  | 7 => ("OptimaWorks$Tableau", "columns", "I", false)
  | 8 => ("OptimaWorks$Tableau", "turning", "LOptimaWorks$Whole;", true)
  | 9 => ("OptimaWorks$Tableau", "first", "LOptimaWorks$Whole;", true)
  | 10 => ("OptimaWorks$Tableau", "second", "LOptimaWorks$Whole;", true)
  | 11 => ("OptimaWorks$Tableau", "rest", "LOptimaWorks$Whole;", true)
  | _ => ("OptimaWorks$Tableau", "spare", "LOptimaWorks$Whole;", true)
def tyX6 : Nat → FieldType := fun k => match k with
  | 0 => .array (.object "OptimaWorks$Whole")
  | 1 => .array .int
  | 2 => .array .int
  | 3 => .array .boolean
  | 4 => .object "OptimaWorks$Whole"
  | 5 => .int
  | 6 => .int
  | 7 => .int
  | 8 => .object "OptimaWorks$Whole"
  | 9 => .object "OptimaWorks$Whole"
  | 10 => .object "OptimaWorks$Whole"
  | 11 => .object "OptimaWorks$Whole"
  | _ => .object "OptimaWorks$Whole"
abbrev wsX60 : List Cond := u_ws RX6 TX6 13
theorem nmX6 : ∀ a, a < 13 → ∀ b, b < 13 → a ≠ b → (TX6 a).2.1 ≠ (TX6 b).2.1 := by decide +kernel
theorem tyX6_ok : ∀ k, k < 13 → parseFieldDescriptor (TX6 k).2.2.1 = some (tyX6 k) := by decide +kernel
abbrev cX6_init : ByteArray := prog_8_method_1_code
def yX6_init : MethodName := ⟨RX6, "<init>", "()V"⟩
abbrev cX6_begin : ByteArray := prog_8_method_2_code
def yX6_begin : MethodName := ⟨RX6, "begin", "(III)V"⟩
abbrev cX6_rowCount : ByteArray := prog_8_method_3_code
def yX6_rowCount : MethodName := ⟨RX6, "rowCount", "()I"⟩
abbrev cX6_cellAt : ByteArray := prog_8_method_4_code
def yX6_cellAt : MethodName := ⟨RX6, "cellAt", "(II)LOptimaWorks$Whole;"⟩
abbrev cX6_rowOf : ByteArray := prog_8_method_5_code
def yX6_rowOf : MethodName := ⟨RX6, "rowOf", "(I)I"⟩
abbrev cX6_columnOf : ByteArray := prog_8_method_6_code
def yX6_columnOf : MethodName := ⟨RX6, "columnOf", "(I)I"⟩
abbrev cX6_holdAtNought : ByteArray := prog_8_method_7_code
def yX6_holdAtNought : MethodName := ⟨RX6, "holdAtNought", "(I)Z"⟩
abbrev cX6_columnWith : ByteArray := prog_8_method_8_code
def yX6_columnWith : MethodName := ⟨RX6, "columnWith", "(I)I"⟩
abbrev cX6_canKeep : ByteArray := prog_8_method_9_code
def yX6_canKeep : MethodName := ⟨RX6, "canKeep", "()Z"⟩
abbrev cX6_rowBelow : ByteArray := prog_8_method_10_code
def yX6_rowBelow : MethodName := ⟨RX6, "rowBelow", "(Z)I"⟩
abbrev cX6_columnOfSign : ByteArray := prog_8_method_11_code
def yX6_columnOfSign : MethodName := ⟨RX6, "columnOfSign", "(IIZ)I"⟩
abbrev cX6_makeLeast : ByteArray := prog_8_method_12_code
def yX6_makeLeast : MethodName := ⟨RX6, "makeLeast", "(I)V"⟩
abbrev cX6_sink : ByteArray := prog_8_method_13_code
def yX6_sink : MethodName := ⟨RX6, "sink", "(I)Z"⟩
abbrev cX6_keepSunk : ByteArray := prog_8_method_14_code
def yX6_keepSunk : MethodName := ⟨RX6, "keepSunk", "(I)V"⟩
abbrev cX6_drop : ByteArray := prog_8_method_15_code
def yX6_drop : MethodName := ⟨RX6, "drop", "(I)V"⟩
abbrev cX6_isInside : ByteArray := prog_8_method_16_code
def yX6_isInside : MethodName := ⟨RX6, "isInside", "(I)Z"⟩
abbrev cX6_shutOutside : ByteArray := prog_8_method_17_code
def yX6_shutOutside : MethodName := ⟨RX6, "shutOutside", "(I)V"⟩
abbrev cX6_shutWith : ByteArray := prog_8_method_18_code
def yX6_shutWith : MethodName := ⟨RX6, "shutWith", "(I)V"⟩
abbrev cX6_tightest : ByteArray := prog_8_method_19_code
def yX6_tightest : MethodName := ⟨RX6, "tightest", "(I)I"⟩
abbrev cX6_compareRoom : ByteArray := prog_8_method_20_code
def yX6_compareRoom : MethodName := ⟨RX6, "compareRoom", "(III)I"⟩
abbrev cX6_exchange : ByteArray := prog_8_method_21_code
def yX6_exchange : MethodName := ⟨RX6, "exchange", "(II)V"⟩
abbrev cX6_changeCell : ByteArray := prog_8_method_22_code
def yX6_changeCell : MethodName := ⟨RX6, "changeCell", "(LOptimaWorks$Whole;LOptimaWorks$Whole;LOptimaWorks$Whole;Z)V"⟩
def RX7 : String := "OptimaWorks$ValueDesk"
def TX7 : u_T := fun k => match k with
  | 0 => ("OptimaWorks$ValueDesk", "holders", "I", false)
  | 1 => ("OptimaWorks$ValueDesk", "rules", "I", false)
  | 2 => ("OptimaWorks$ValueDesk", "pairs", "[I", true)
  | 3 => ("OptimaWorks$ValueDesk", "domain", "[I", true)
  | 4 => ("OptimaWorks$ValueDesk", "kind", "[I", true)
  | 5 => ("OptimaWorks$ValueDesk", "a", "[I", true)
  | 6 => ("OptimaWorks$ValueDesk", "b", "[I", true)
  | 7 => ("OptimaWorks$ValueDesk", "c", "[I", true)
  | 8 => ("OptimaWorks$ValueDesk", "rulePairs", "[I", true)
  | 9 => ("OptimaWorks$ValueDesk", "lastHolder", "[I", true)
  | 10 => ("OptimaWorks$ValueDesk", "now", "[I", true)
  | 11 => ("OptimaWorks$ValueDesk", "doneFor", "I", false)
  | 12 => ("OptimaWorks$ValueDesk", "changed", "Z", false)
  | 13 => ("OptimaWorks$ValueDesk", "fore", "[J", true)
  | 14 => ("OptimaWorks$ValueDesk", "back", "[J", true)
  | 15 => ("OptimaWorks$ValueDesk", "together", "[I", true)
  | 16 => ("OptimaWorks$ValueDesk", "member", "[I", true)
  | 17 => ("OptimaWorks$ValueDesk", "list", "[J", false)
  | 18 => ("OptimaWorks$ValueDesk", "listed", "I", false)
  | _ => ("OptimaWorks$ValueDesk", "listDone", "Z", false)
def tyX7 : Nat → FieldType := fun k => match k with
  | 0 => .int
  | 1 => .int
  | 2 => .array .int
  | 3 => .array .int
  | 4 => .array .int
  | 5 => .array .int
  | 6 => .array .int
  | 7 => .array .int
  | 8 => .array .int
  | 9 => .array .int
  | 10 => .array .int
  | 11 => .int
  | 12 => .boolean
  | 13 => .array .long
  | 14 => .array .long
  | 15 => .array .int
  | 16 => .array .int
  | 17 => .array .long
  | 18 => .int
  | _ => .boolean
abbrev wsX70 : List Cond := u_ws RX7 TX7 20
theorem nmX7 : ∀ a, a < 20 → ∀ b, b < 20 → a ≠ b → (TX7 a).2.1 ≠ (TX7 b).2.1 := by decide +kernel
theorem tyX7_ok : ∀ k, k < 20 → parseFieldDescriptor (TX7 k).2.2.1 = some (tyX7 k) := by decide +kernel
abbrev cX7_init : ByteArray := prog_9_method_1_code
def yX7_init : MethodName := ⟨RX7, "<init>", "()V"⟩
abbrev cX7_forget : ByteArray := prog_9_method_2_code
def yX7_forget : MethodName := ⟨RX7, "forget", "()V"⟩
abbrev cX7_change : ByteArray := prog_9_method_3_code
def yX7_change : MethodName := ⟨RX7, "change", "()V"⟩
abbrev cX7_isHolder : ByteArray := prog_9_method_4_code
def yX7_isHolder : MethodName := ⟨RX7, "isHolder", "(I)Z"⟩
abbrev cX7_isSet : ByteArray := prog_9_method_5_code
def yX7_isSet : MethodName := ⟨RX7, "isSet", "(I)Z"⟩
abbrev cX7_isWithin : ByteArray := prog_9_method_6_code
def yX7_isWithin : MethodName := ⟨RX7, "isWithin", "(II)Z"⟩
abbrev cX7_addHolder : ByteArray := prog_9_method_7_code
def yX7_addHolder : MethodName := ⟨RX7, "addHolder", "(I)I"⟩
abbrev cX7_isRule : ByteArray := prog_9_method_8_code
def yX7_isRule : MethodName := ⟨RX7, "isRule", "(IIII)Z"⟩
abbrev cX7_addRule : ByteArray := prog_9_method_9_code
def yX7_addRule : MethodName := ⟨RX7, "addRule", "(IIII)I"⟩
abbrev cX7_leftOf : ByteArray := prog_9_method_10_code
def yX7_leftOf : MethodName := ⟨RX7, "leftOf", "(I)I"⟩
abbrev cX7_reasonFor : ByteArray := prog_9_method_11_code
def yX7_reasonFor : MethodName := ⟨RX7, "reasonFor", "(II)I"⟩
abbrev cX7_narrow : ByteArray := prog_9_method_12_code
def yX7_narrow : MethodName := ⟨RX7, "narrow", "(I)V"⟩
abbrev cX7_isAnyEmpty : ByteArray := prog_9_method_13_code
def yX7_isAnyEmpty : MethodName := ⟨RX7, "isAnyEmpty", "()Z"⟩
abbrev cX7_cutTo : ByteArray := prog_9_method_14_code
def yX7_cutTo : MethodName := ⟨RX7, "cutTo", "(II)V"⟩
abbrev cX7_narrowBy : ByteArray := prog_9_method_15_code
def yX7_narrowBy : MethodName := ⟨RX7, "narrowBy", "(I)V"⟩
abbrev cX7_takeMembers : ByteArray := prog_9_method_16_code
def yX7_takeMembers : MethodName := ⟨RX7, "takeMembers", "(I)I"⟩
abbrev cX7_narrowDifferent : ByteArray := prog_9_method_17_code
def yX7_narrowDifferent : MethodName := ⟨RX7, "narrowDifferent", "(I)V"⟩
abbrev cX7_highest : ByteArray := prog_9_method_18_code
def yX7_highest : MethodName := ⟨RX7, "highest", "(I)I"⟩
abbrev cX7_lowest : ByteArray := prog_9_method_19_code
def yX7_lowest : MethodName := ⟨RX7, "lowest", "(I)I"⟩
abbrev cX7_narrowOrder : ByteArray := prog_9_method_20_code
def yX7_narrowOrder : MethodName := ⟨RX7, "narrowOrder", "(III)V"⟩
abbrev cX7_narrowSum : ByteArray := prog_9_method_21_code
def yX7_narrowSum : MethodName := ⟨RX7, "narrowSum", "(I)V"⟩
abbrev cX7_moveUp : ByteArray := prog_9_method_22_code
def yX7_moveUp : MethodName := ⟨RX7, "moveUp", "(II)V"⟩
abbrev cX7_moveDown : ByteArray := prog_9_method_23_code
def yX7_moveDown : MethodName := ⟨RX7, "moveDown", "(II)Z"⟩
abbrev cX7_narrowMost : ByteArray := prog_9_method_24_code
def yX7_narrowMost : MethodName := ⟨RX7, "narrowMost", "(I)V"⟩
abbrev cX7_narrowPairs : ByteArray := prog_9_method_25_code
def yX7_narrowPairs : MethodName := ⟨RX7, "narrowPairs", "(I)V"⟩
abbrev cX7_listingSize : ByteArray := prog_9_method_26_code
def yX7_listingSize : MethodName := ⟨RX7, "listingSize", "()I"⟩
abbrev cX7_listedValue : ByteArray := prog_9_method_27_code
def yX7_listedValue : MethodName := ⟨RX7, "listedValue", "(II)I"⟩
abbrev cX7_isListable : ByteArray := prog_9_method_28_code
def yX7_isListable : MethodName := ⟨RX7, "isListable", "()Z"⟩
abbrev cX7_makeListing : ByteArray := prog_9_method_29_code
def yX7_makeListing : MethodName := ⟨RX7, "makeListing", "()V"⟩
abbrev cX7_nextValue : ByteArray := prog_9_method_30_code
def yX7_nextValue : MethodName := ⟨RX7, "nextValue", "(I)I"⟩
abbrev cX7_keepListed : ByteArray := prog_9_method_31_code
def yX7_keepListed : MethodName := ⟨RX7, "keepListed", "()V"⟩
abbrev cX7_keepsAt : ByteArray := prog_9_method_32_code
def yX7_keepsAt : MethodName := ⟨RX7, "keepsAt", "(I)Z"⟩
abbrev cX7_keeps : ByteArray := prog_9_method_33_code
def yX7_keeps : MethodName := ⟨RX7, "keeps", "(I)Z"⟩
def RX8 : String := "OptimaWorks$Whole"
def TX8 : u_T := fun k => match k with
  | 0 => ("OptimaWorks$Whole", "limb", "[J", true)
  | 1 => ("OptimaWorks$Whole", "length", "I", false)
  | _ => ("OptimaWorks$Whole", "below", "Z", false)
def tyX8 : Nat → FieldType := fun k => match k with
  | 0 => .array .long
  | 1 => .int
  | _ => .boolean
abbrev wsX80 : List Cond := u_ws RX8 TX8 3
theorem nmX8 : ∀ a, a < 3 → ∀ b, b < 3 → a ≠ b → (TX8 a).2.1 ≠ (TX8 b).2.1 := by decide +kernel
theorem tyX8_ok : ∀ k, k < 3 → parseFieldDescriptor (TX8 k).2.2.1 = some (tyX8 k) := by decide +kernel
abbrev cX8_init : ByteArray := prog_10_method_1_code
def yX8_init : MethodName := ⟨RX8, "<init>", "()V"⟩
abbrev cX8_setLong : ByteArray := prog_10_method_2_code
def yX8_setLong : MethodName := ⟨RX8, "setLong", "(J)V"⟩
abbrev cX8_copy : ByteArray := prog_10_method_3_code
def yX8_copy : MethodName := ⟨RX8, "copy", "(LOptimaWorks$Whole;)V"⟩
abbrev cX8_sign : ByteArray := prog_10_method_4_code
def yX8_sign : MethodName := ⟨RX8, "sign", "()I"⟩
abbrev cX8_isOne : ByteArray := prog_10_method_5_code
def yX8_isOne : MethodName := ⟨RX8, "isOne", "()Z"⟩
abbrev cX8_isSmall : ByteArray := prog_10_method_6_code
def yX8_isSmall : MethodName := ⟨RX8, "isSmall", "()Z"⟩
abbrev cX8_small : ByteArray := prog_10_method_7_code
def yX8_small : MethodName := ⟨RX8, "small", "()J"⟩
abbrev cX8_negate : ByteArray := prog_10_method_8_code
def yX8_negate : MethodName := ⟨RX8, "negate", "()V"⟩
abbrev cX8_trim : ByteArray := prog_10_method_9_code
def yX8_trim : MethodName := ⟨RX8, "trim", "()V"⟩
abbrev cX8_compareSize : ByteArray := prog_10_method_10_code
def yX8_compareSize : MethodName := ⟨RX8, "compareSize", "(LOptimaWorks$Whole;)I"⟩
abbrev cX8_add : ByteArray := prog_10_method_11_code
def yX8_add : MethodName := ⟨RX8, "add", "(LOptimaWorks$Whole;)V"⟩
abbrev cX8_addSize : ByteArray := prog_10_method_12_code
def yX8_addSize : MethodName := ⟨RX8, "addSize", "(LOptimaWorks$Whole;)V"⟩
abbrev cX8_takeSize : ByteArray := prog_10_method_13_code
def yX8_takeSize : MethodName := ⟨RX8, "takeSize", "(LOptimaWorks$Whole;LOptimaWorks$Whole;)V"⟩
abbrev cX8_setProduct : ByteArray := prog_10_method_14_code
def yX8_setProduct : MethodName := ⟨RX8, "setProduct", "(LOptimaWorks$Whole;LOptimaWorks$Whole;)V"⟩
abbrev cX8_divideSmall : ByteArray := prog_10_method_15_code
def yX8_divideSmall : MethodName := ⟨RX8, "divideSmall", "(J)J"⟩
abbrev cX8_divide : ByteArray := prog_10_method_16_code
def yX8_divide : MethodName := ⟨RX8, "divide", "(LOptimaWorks$Whole;LOptimaWorks$Whole;LOptimaWorks$Whole;)V"⟩
abbrev cX8_setShifted : ByteArray := prog_10_method_17_code
def yX8_setShifted : MethodName := ⟨RX8, "setShifted", "(LOptimaWorks$Whole;I)V"⟩
abbrev cX8_shiftBack : ByteArray := prog_10_method_18_code
def yX8_shiftBack : MethodName := ⟨RX8, "shiftBack", "(I)V"⟩
abbrev cX8_takeTimes : ByteArray := prog_10_method_19_code
def yX8_takeTimes : MethodName := ⟨RX8, "takeTimes", "(LOptimaWorks$Whole;II)J"⟩
def RX9 : String := "OptimaWorks$Words"
def TX9 : u_T := fun k => match k with
  | 0 => ("OptimaWorks$Words", "tape", "[B", false)
  | 1 => ("OptimaWorks$Words", "length", "I", false)
  | 2 => ("OptimaWorks$Words", "fault", "I", false)
  | 3 => ("OptimaWorks$Words", "place", "I", false)
  | 4 => ("OptimaWorks$Words", "kind", "I", false)
  | 5 => ("OptimaWorks$Words", "at", "I", false)
  | 6 => ("OptimaWorks$Words", "number", "I", false)
  | 7 => ("OptimaWorks$Words", "name", "J", false)
  | _ => ("OptimaWorks$Words", "next", "I", false)
def tyX9 : Nat → FieldType := fun k => match k with
  | 0 => .array .byte
  | 1 => .int
  | 2 => .int
  | 3 => .int
  | 4 => .int
  | 5 => .int
  | 6 => .int
  | 7 => .long
  | _ => .int
abbrev wsX90 : List Cond := u_ws RX9 TX9 9
theorem nmX9 : ∀ a, a < 9 → ∀ b, b < 9 → a ≠ b → (TX9 a).2.1 ≠ (TX9 b).2.1 := by decide +kernel
theorem tyX9_ok : ∀ k, k < 9 → parseFieldDescriptor (TX9 k).2.2.1 = some (tyX9 k) := by decide +kernel
abbrev cX9_init : ByteArray := prog_11_method_1_code
def yX9_init : MethodName := ⟨RX9, "<init>", "()V"⟩
abbrev cX9_append : ByteArray := prog_11_method_2_code
def yX9_append : MethodName := ⟨RX9, "append", "(I)V"⟩
abbrev cX9_fail : ByteArray := prog_11_method_3_code
def yX9_fail : MethodName := ⟨RX9, "fail", "(II)V"⟩
abbrev cX9_failHere : ByteArray := prog_11_method_4_code
def yX9_failHere : MethodName := ⟨RX9, "failHere", "(I)V"⟩
abbrev cX9_failWord : ByteArray := prog_11_method_5_code
def yX9_failWord : MethodName := ⟨RX9, "failWord", "()V"⟩
abbrev cX9_begin : ByteArray := prog_11_method_6_code
def yX9_begin : MethodName := ⟨RX9, "begin", "()V"⟩
abbrev cX9_advance : ByteArray := prog_11_method_7_code
def yX9_advance : MethodName := ⟨RX9, "advance", "()V"⟩
abbrev cX9_take : ByteArray := prog_11_method_8_code
def yX9_take : MethodName := ⟨RX9, "take", "(I)V"⟩
abbrev cX9_skipBlanks : ByteArray := prog_11_method_9_code
def yX9_skipBlanks : MethodName := ⟨RX9, "skipBlanks", "()V"⟩
abbrev cX9_takeName : ByteArray := prog_11_method_10_code
def yX9_takeName : MethodName := ⟨RX9, "takeName", "()V"⟩
abbrev cX9_keywordOf : ByteArray := prog_11_method_11_code
def yX9_keywordOf : MethodName := ⟨RX9, "keywordOf", "(I)I"⟩
abbrev cX9_takeNumber : ByteArray := prog_11_method_12_code
def yX9_takeNumber : MethodName := ⟨RX9, "takeNumber", "()V"⟩
abbrev cX9_takeSign : ByteArray := prog_11_method_13_code
def yX9_takeSign : MethodName := ⟨RX9, "takeSign", "(I)V"⟩
def RX10 : String := "OptimaWorks$Worker"
def TX10 : u_T := fun k => match k with
  | 0 => ("OptimaWorks$Worker", "words", "LOptimaWorks$Words;", true)
  | 1 => ("OptimaWorks$Worker", "model", "LOptimaWorks$Model;", true)
  | 2 => ("OptimaWorks$Worker", "tree", "[I", false)
  | 3 => ("OptimaWorks$Worker", "names", "I", false)
  | 4 => ("OptimaWorks$Worker", "key", "[J", true)
  | 5 => ("OptimaWorks$Worker", "kind", "[I", true)
  | 6 => ("OptimaWorks$Worker", "one", "[I", true)
  | 7 => ("OptimaWorks$Worker", "two", "[I", true)
  | 8 => ("OptimaWorks$Worker", "base", "[I", true)
  | 9 => ("OptimaWorks$Worker", "params", "I", false)
  | 10 => ("OptimaWorks$Worker", "paramOver", "[I", false)
  | 11 => ("OptimaWorks$Worker", "paramUnder", "[I", false)
  | 12 => ("OptimaWorks$Worker", "over", "[J", true)
  | 13 => ("OptimaWorks$Worker", "under", "[J", true)
  | 14 => ("OptimaWorks$Worker", "bound", "[I", true)
  | 15 => ("OptimaWorks$Worker", "nameAt", "I", false)
  | 16 => ("OptimaWorks$Worker", "startAt", "I", false)
  | 17 => ("OptimaWorks$Worker", "steps", "I", false)
  | 18 => ("OptimaWorks$Worker", "scaleOver", "J", false)
  | _ => ("OptimaWorks$Worker", "scaleUnder", "J", false)
def tyX10 : Nat → FieldType := fun k => match k with
  | 0 => .object "OptimaWorks$Words"
  | 1 => .object "OptimaWorks$Model"
  | 2 => .array .int
  | 3 => .int
  | 4 => .array .long
  | 5 => .array .int
  | 6 => .array .int
  | 7 => .array .int
  | 8 => .array .int
  | 9 => .int
  | 10 => .array .int
  | 11 => .array .int
  | 12 => .array .long
  | 13 => .array .long
  | 14 => .array .int
  | 15 => .int
  | 16 => .int
  | 17 => .int
  | 18 => .long
  | _ => .long
abbrev wsX100 : List Cond := u_ws RX10 TX10 20
theorem nmX10 : ∀ a, a < 20 → ∀ b, b < 20 → a ≠ b → (TX10 a).2.1 ≠ (TX10 b).2.1 := by decide +kernel
theorem tyX10_ok : ∀ k, k < 20 → parseFieldDescriptor (TX10 k).2.2.1 = some (tyX10 k) := by decide +kernel
abbrev cX10_init : ByteArray := prog_12_method_1_code
def yX10_init : MethodName := ⟨RX10, "<init>", "(LOptimaWorks$Words;LOptimaWorks$Model;)V"⟩
abbrev cX10_begin : ByteArray := prog_12_method_2_code
def yX10_begin : MethodName := ⟨RX10, "begin", "([II)V"⟩
abbrev cX10_startDeclaration : ByteArray := prog_12_method_3_code
def yX10_startDeclaration : MethodName := ⟨RX10, "startDeclaration", "(I)V"⟩
abbrev cX10_find : ByteArray := prog_12_method_4_code
def yX10_find : MethodName := ⟨RX10, "find", "(J)I"⟩
abbrev cX10_findValue : ByteArray := prog_12_method_5_code
def yX10_findValue : MethodName := ⟨RX10, "findValue", "(J)I"⟩
abbrev cX10_addName : ByteArray := prog_12_method_6_code
def yX10_addName : MethodName := ⟨RX10, "addName", "(JIIII)V"⟩
abbrev cX10_members : ByteArray := prog_12_method_7_code
def yX10_members : MethodName := ⟨RX10, "members", "(II)I"⟩
abbrev cX10_doParam : ByteArray := prog_12_method_8_code
def yX10_doParam : MethodName := ⟨RX10, "doParam", "(I)V"⟩
abbrev cX10_doVar : ByteArray := prog_12_method_9_code
def yX10_doVar : MethodName := ⟨RX10, "doVar", "(IIIZ)V"⟩
abbrev cX10_farEnd : ByteArray := prog_12_method_10_code
def yX10_farEnd : MethodName := ⟨RX10, "farEnd", "(I)I"⟩
abbrev cX10_multiplyCases : ByteArray := prog_12_method_11_code
def yX10_multiplyCases : MethodName := ⟨RX10, "multiplyCases", "(I)V"⟩
abbrev cX10_doRows : ByteArray := prog_12_method_12_code
def yX10_doRows : MethodName := ⟨RX10, "doRows", "(IIII)V"⟩
abbrev cX10_doGoal : ByteArray := prog_12_method_13_code
def yX10_doGoal : MethodName := ⟨RX10, "doGoal", "(IZ)V"⟩
abbrev cX10_keepWay : ByteArray := prog_12_method_14_code
def yX10_keepWay : MethodName := ⟨RX10, "keepWay", "(III)V"⟩
abbrev cX10_scaled : ByteArray := prog_12_method_15_code
def yX10_scaled : MethodName := ⟨RX10, "scaled", "(IIII)I"⟩
abbrev cX10_signOf : ByteArray := prog_12_method_16_code
def yX10_signOf : MethodName := ⟨RX10, "signOf", "(I)I"⟩
abbrev cX10_leaveDifference : ByteArray := prog_12_method_17_code
def yX10_leaveDifference : MethodName := ⟨RX10, "leaveDifference", "(I)V"⟩
abbrev cX10_product : ByteArray := prog_12_method_18_code
def yX10_product : MethodName := ⟨RX10, "product", "(JJI)I"⟩
abbrev cX10_stretchWay : ByteArray := prog_12_method_19_code
def yX10_stretchWay : MethodName := ⟨RX10, "stretchWay", "(III)Z"⟩
abbrev cX10_divisor : ByteArray := prog_12_method_20_code
def yX10_divisor : MethodName := ⟨RX10, "divisor", "(JJ)J"⟩
abbrev cX10_step : ByteArray := prog_12_method_21_code
def yX10_step : MethodName := ⟨RX10, "step", "()V"⟩
abbrev cX10_setNumber : ByteArray := prog_12_method_22_code
def yX10_setNumber : MethodName := ⟨RX10, "setNumber", "(IJJ)V"⟩
abbrev cX10_hasVariables : ByteArray := prog_12_method_23_code
def yX10_hasVariables : MethodName := ⟨RX10, "hasVariables", "(I)Z"⟩
abbrev cX10_setFraction : ByteArray := prog_12_method_24_code
def yX10_setFraction : MethodName := ⟨RX10, "setFraction", "(IJJI)V"⟩
abbrev cX10_join : ByteArray := prog_12_method_25_code
def yX10_join : MethodName := ⟨RX10, "join", "(IZI)V"⟩
abbrev cX10_multiply : ByteArray := prog_12_method_26_code
def yX10_multiply : MethodName := ⟨RX10, "multiply", "(II)V"⟩
abbrev cX10_divide : ByteArray := prog_12_method_27_code
def yX10_divide : MethodName := ⟨RX10, "divide", "(II)V"⟩
abbrev cX10_linear : ByteArray := prog_12_method_28_code
def yX10_linear : MethodName := ⟨RX10, "linear", "(II)V"⟩
abbrev cX10_term : ByteArray := prog_12_method_29_code
def yX10_term : MethodName := ⟨RX10, "term", "(II)V"⟩
abbrev cX10_factor : ByteArray := prog_12_method_30_code
def yX10_factor : MethodName := ⟨RX10, "factor", "(II)V"⟩
abbrev cX10_turn : ByteArray := prog_12_method_31_code
def yX10_turn : MethodName := ⟨RX10, "turn", "(I)V"⟩
abbrev cX10_lookUp : ByteArray := prog_12_method_32_code
def yX10_lookUp : MethodName := ⟨RX10, "lookUp", "(II)V"⟩
abbrev cX10_place : ByteArray := prog_12_method_33_code
def yX10_place : MethodName := ⟨RX10, "place", "(III)I"⟩
abbrev cX10_number : ByteArray := prog_12_method_34_code
def yX10_number : MethodName := ⟨RX10, "number", "(II)V"⟩
abbrev cX10_boundMembers : ByteArray := prog_12_method_35_code
def yX10_boundMembers : MethodName := ⟨RX10, "boundMembers", "(I)I"⟩
abbrev cX10_bind : ByteArray := prog_12_method_36_code
def yX10_bind : MethodName := ⟨RX10, "bind", "(II)V"⟩
abbrev cX10_sum : ByteArray := prog_12_method_37_code
def yX10_sum : MethodName := ⟨RX10, "sum", "(II)V"⟩
abbrev cX10_anyHolds : ByteArray := prog_12_method_38_code
def yX10_anyHolds : MethodName := ⟨RX10, "anyHolds", "(II)Z"⟩
abbrev cX10_allHold : ByteArray := prog_12_method_39_code
def yX10_allHold : MethodName := ⟨RX10, "allHold", "(II)Z"⟩
abbrev cX10_oneHolds : ByteArray := prog_12_method_40_code
def yX10_oneHolds : MethodName := ⟨RX10, "oneHolds", "(II)Z"⟩
abbrev cX10_compares : ByteArray := prog_12_method_41_code
def yX10_compares : MethodName := ⟨RX10, "compares", "(II)Z"⟩
def RX11 : String := "OptimaWorks"
def TX11 : u_T := fun k => match k with
  | 0 => ("OptimaWorks", "ready", "[I", true)
  | 1 => ("OptimaWorks", "words", "LOptimaWorks$Words;", true)
  | 2 => ("OptimaWorks", "model", "LOptimaWorks$Model;", true)
  | 3 => ("OptimaWorks", "sheet", "[B", false)
  | 4 => ("OptimaWorks", "sheetLength", "I", false)
  | 5 => ("OptimaWorks", "reader", "LOptimaWorks$Reader;", false)
  | 6 => ("OptimaWorks", "solver", "LOptimaWorks$Solver;", false)
  | 7 => ("OptimaWorks", "prover", "LOptimaWorks$Prover;", false)
  | 8 => ("OptimaWorks", "values", "LOptimaWorks$ValueDesk;", false)
  | 9 => ("OptimaWorks", "clauses", "LOptimaWorks$ClauseDesk;", false)
  | _ => ("OptimaWorks", "nets", "LOptimaWorks$NetDesk;", false)
def tyX11 : Nat → FieldType := fun k => match k with
  | 0 => .array .int
  | 1 => .object "OptimaWorks$Words"
  | 2 => .object "OptimaWorks$Model"
  | 3 => .array .byte
  | 4 => .int
  | 5 => .object "OptimaWorks$Reader"
  | 6 => .object "OptimaWorks$Solver"
  | 7 => .object "OptimaWorks$Prover"
  | 8 => .object "OptimaWorks$ValueDesk"
  | 9 => .object "OptimaWorks$ClauseDesk"
  | _ => .object "OptimaWorks$NetDesk"
abbrev wsX110 : List Cond := u_ws RX11 TX11 11
theorem nmX11 : ∀ a, a < 11 → ∀ b, b < 11 → a ≠ b → (TX11 a).2.1 ≠ (TX11 b).2.1 := by decide +kernel
theorem tyX11_ok : ∀ k, k < 11 → parseFieldDescriptor (TX11 k).2.2.1 = some (tyX11 k) := by decide +kernel
abbrev cX11_init : ByteArray := prog_1_method_1_code
def yX11_init : MethodName := ⟨RX11, "<init>", "()V"⟩
abbrev cX11_feed : ByteArray := prog_1_method_2_code
def yX11_feed : MethodName := ⟨RX11, "feed", "(IIIII)V"⟩
abbrev cX11_end : ByteArray := prog_1_method_3_code
def yX11_end : MethodName := ⟨RX11, "end", "(I)I"⟩
abbrev cX11_wipe : ByteArray := prog_1_method_4_code
def yX11_wipe : MethodName := ⟨RX11, "wipe", "()V"⟩
abbrev cX11_read : ByteArray := prog_1_method_5_code
def yX11_read : MethodName := ⟨RX11, "read", "()I"⟩
abbrev cX11_fault : ByteArray := prog_1_method_6_code
def yX11_fault : MethodName := ⟨RX11, "fault", "(I)I"⟩
abbrev cX11_variable : ByteArray := prog_1_method_7_code
def yX11_variable : MethodName := ⟨RX11, "variable", "(II)I"⟩
abbrev cX11_row : ByteArray := prog_1_method_8_code
def yX11_row : MethodName := ⟨RX11, "row", "(III)I"⟩
abbrev cX11_goal : ByteArray := prog_1_method_9_code
def yX11_goal : MethodName := ⟨RX11, "goal", "(IIZ)I"⟩
abbrev cX11_write : ByteArray := prog_1_method_10_code
def yX11_write : MethodName := ⟨RX11, "write", "()I"⟩
abbrev cX11_needModel : ByteArray := prog_1_method_11_code
def yX11_needModel : MethodName := ⟨RX11, "needModel", "()V"⟩
abbrev cX11_solve : ByteArray := prog_1_method_12_code
def yX11_solve : MethodName := ⟨RX11, "solve", "(Z)Z"⟩
abbrev cX11_value : ByteArray := prog_1_method_13_code
def yX11_value : MethodName := ⟨RX11, "value", "(I)I"⟩
abbrev cX11_best : ByteArray := prog_1_method_14_code
def yX11_best : MethodName := ⟨RX11, "best", "(I)I"⟩
abbrev cX11_way : ByteArray := prog_1_method_15_code
def yX11_way : MethodName := ⟨RX11, "way", "(I)I"⟩
abbrev cX11_needAnswer : ByteArray := prog_1_method_16_code
def yX11_needAnswer : MethodName := ⟨RX11, "needAnswer", "(II)V"⟩
abbrev cX11_count : ByteArray := prog_1_method_17_code
def yX11_count : MethodName := ⟨RX11, "count", "()I"⟩
abbrev cX11_counted : ByteArray := prog_1_method_18_code
def yX11_counted : MethodName := ⟨RX11, "counted", "(II)I"⟩
abbrev cX11_theSolver : ByteArray := prog_1_method_19_code
def yX11_theSolver : MethodName := ⟨RX11, "theSolver", "()LOptimaWorks$Solver;"⟩
abbrev cX11_prove : ByteArray := prog_1_method_20_code
def yX11_prove : MethodName := ⟨RX11, "prove", "()I"⟩
abbrev cX11_need : ByteArray := prog_1_method_21_code
def yX11_need : MethodName := ⟨RX11, "need", "(II)I"⟩
abbrev cX11_multiplier : ByteArray := prog_1_method_22_code
def yX11_multiplier : MethodName := ⟨RX11, "multiplier", "(I)I"⟩
abbrev cX11_letter : ByteArray := prog_1_method_23_code
def yX11_letter : MethodName := ⟨RX11, "letter", "(I)I"⟩
abbrev cX11_about : ByteArray := prog_1_method_24_code
def yX11_about : MethodName := ⟨RX11, "about", "(I)I"⟩
abbrev cX11_put : ByteArray := prog_1_method_25_code
def yX11_put : MethodName := ⟨RX11, "put", "(I)V"⟩
abbrev cX11_putText : ByteArray := prog_1_method_26_code
def yX11_putText : MethodName := ⟨RX11, "putText", "(Ljava/lang/String;)V"⟩
abbrev cX11_putNumber : ByteArray := prog_1_method_27_code
def yX11_putNumber : MethodName := ⟨RX11, "putNumber", "(I)V"⟩
abbrev cX11_putWhole : ByteArray := prog_1_method_28_code
def yX11_putWhole : MethodName := ⟨RX11, "putWhole", "(LOptimaWorks$Whole;)V"⟩
abbrev cX11_turnRound : ByteArray := prog_1_method_29_code
def yX11_turnRound : MethodName := ⟨RX11, "turnRound", "(I)V"⟩
abbrev cX11_putTold : ByteArray := prog_1_method_30_code
def yX11_putTold : MethodName := ⟨RX11, "putTold", "()I"⟩
abbrev cX11_putVariable : ByteArray := prog_1_method_31_code
def yX11_putVariable : MethodName := ⟨RX11, "putVariable", "(I)V"⟩
abbrev cX11_putRow : ByteArray := prog_1_method_32_code
def yX11_putRow : MethodName := ⟨RX11, "putRow", "(I)V"⟩
abbrev cX11_putWay : ByteArray := prog_1_method_33_code
def yX11_putWay : MethodName := ⟨RX11, "putWay", "(II)V"⟩
abbrev cX11_putTimes : ByteArray := prog_1_method_34_code
def yX11_putTimes : MethodName := ⟨RX11, "putTimes", "(IIIZ)V"⟩
abbrev cX11_putRatio : ByteArray := prog_1_method_35_code
def yX11_putRatio : MethodName := ⟨RX11, "putRatio", "(II)V"⟩
abbrev cX11_putDifferent : ByteArray := prog_1_method_36_code
def yX11_putDifferent : MethodName := ⟨RX11, "putDifferent", "(I)V"⟩
abbrev cX11_putGoal : ByteArray := prog_1_method_37_code
def yX11_putGoal : MethodName := ⟨RX11, "putGoal", "(I)V"⟩
abbrev cX11_theValues : ByteArray := prog_1_method_38_code
def yX11_theValues : MethodName := ⟨RX11, "theValues", "()LOptimaWorks$ValueDesk;"⟩
abbrev cX11_holder : ByteArray := prog_1_method_39_code
def yX11_holder : MethodName := ⟨RX11, "holder", "(I)I"⟩
abbrev cX11_rule : ByteArray := prog_1_method_40_code
def yX11_rule : MethodName := ⟨RX11, "rule", "(IIII)I"⟩
abbrev cX11_pair : ByteArray := prog_1_method_41_code
def yX11_pair : MethodName := ⟨RX11, "pair", "(II)Z"⟩
abbrev cX11_left : ByteArray := prog_1_method_42_code
def yX11_left : MethodName := ⟨RX11, "left", "(I)I"⟩
abbrev cX11_listing : ByteArray := prog_1_method_43_code
def yX11_listing : MethodName := ⟨RX11, "listing", "()I"⟩
abbrev cX11_listed : ByteArray := prog_1_method_44_code
def yX11_listed : MethodName := ⟨RX11, "listed", "(II)I"⟩
abbrev cX11_reason : ByteArray := prog_1_method_45_code
def yX11_reason : MethodName := ⟨RX11, "reason", "(II)I"⟩
abbrev cX11_clear : ByteArray := prog_1_method_46_code
def yX11_clear : MethodName := ⟨RX11, "clear", "()V"⟩
abbrev cX11_theClauses : ByteArray := prog_1_method_47_code
def yX11_theClauses : MethodName := ⟨RX11, "theClauses", "()LOptimaWorks$ClauseDesk;"⟩
abbrev cX11_clause : ByteArray := prog_1_method_48_code
def yX11_clause : MethodName := ⟨RX11, "clause", "(III)I"⟩
abbrev cX11_unsay : ByteArray := prog_1_method_49_code
def yX11_unsay : MethodName := ⟨RX11, "unsay", "()Z"⟩
abbrev cX11_truth : ByteArray := prog_1_method_50_code
def yX11_truth : MethodName := ⟨RX11, "truth", "(I)I"⟩
abbrev cX11_theNets : ByteArray := prog_1_method_51_code
def yX11_theNets : MethodName := ⟨RX11, "theNets", "()LOptimaWorks$NetDesk;"⟩
abbrev cX11_arc : ByteArray := prog_1_method_52_code
def yX11_arc : MethodName := ⟨RX11, "arc", "(IIII)I"⟩
abbrev cX11_isNode : ByteArray := prog_1_method_53_code
def yX11_isNode : MethodName := ⟨RX11, "isNode", "(I)Z"⟩
abbrev cX11_needNodes : ByteArray := prog_1_method_54_code
def yX11_needNodes : MethodName := ⟨RX11, "needNodes", "(II)V"⟩
abbrev cX11_unarc : ByteArray := prog_1_method_55_code
def yX11_unarc : MethodName := ⟨RX11, "unarc", "()Z"⟩
abbrev cX11_greatest : ByteArray := prog_1_method_56_code
def yX11_greatest : MethodName := ⟨RX11, "greatest", "(II)I"⟩
abbrev cX11_cut : ByteArray := prog_1_method_57_code
def yX11_cut : MethodName := ⟨RX11, "cut", "(II)I"⟩
abbrev cX11_cheapest : ByteArray := prog_1_method_58_code
def yX11_cheapest : MethodName := ⟨RX11, "cheapest", "(III)I"⟩
abbrev cX11_path : ByteArray := prog_1_method_59_code
def yX11_path : MethodName := ⟨RX11, "path", "(III)I"⟩
abbrev cX11_tree : ByteArray := prog_1_method_60_code
def yX11_tree : MethodName := ⟨RX11, "tree", "()J"⟩
abbrev cX11_tour : ByteArray := prog_1_method_61_code
def yX11_tour : MethodName := ⟨RX11, "tour", "(II)I"⟩
def RX12 : String := "OptimaWorksModel"
def TX12 : u_T := fun k => match k with
  | 0 => ("OptimaWorksModel", "thrown", "I", false)
  | 1 => ("OptimaWorksModel", "big", "[I", true)
  | 2 => ("OptimaWorksModel", "sum", "[J", true)
  | 3 => ("OptimaWorksModel", "rest", "[I", true)
  | 4 => ("OptimaWorksModel", "less", "[I", true)
  | 5 => ("OptimaWorksModel", "columns", "I", false)
  | 6 => ("OptimaWorksModel", "rows", "I", false)
  | 7 => ("OptimaWorksModel", "goals", "I", false)
  | 8 => ("OptimaWorksModel", "columnOf", "[I", true)
  | 9 => ("OptimaWorksModel", "rowOf", "[I", true)
  | 10 => ("OptimaWorksModel", "still", "[Z", true)
  | 11 => ("OptimaWorksModel", "quick", "Z", false)
  | 12 => ("OptimaWorksModel", "quickDivisor", "J", false)
  | 13 => ("OptimaWorksModel", "fast", "[J", true)
  | 14 => ("OptimaWorksModel", "later", "[J", true)
  | 15 => ("OptimaWorksModel", "tape", "[B", true)
  | 16 => ("OptimaWorksModel", "taped", "I", false)
  | 17 => ("OptimaWorksModel", "at0", "I", false)
  | 18 => ("OptimaWorksModel", "word", "I", false)
  | 19 => ("OptimaWorksModel", "from", "I", false)
  | 20 => ("OptimaWorksModel", "sign0", "I", false)
  | 21 => ("OptimaWorksModel", "stop", "I", false)
  | 22 => ("OptimaWorksModel", "place", "I", false)
  | 23 => ("OptimaWorksModel", "latest", "I", false)
  | 24 => ("OptimaWorksModel", "latestPlace", "I", false)
  | 25 => ("OptimaWorksModel", "names", "I", false)
  | 26 => ("OptimaWorksModel", "nameKind", "[I", true)
  | 27 => ("OptimaWorksModel", "nameFrom", "[I", true)
  | 28 => ("OptimaWorksModel", "nameLong", "[I", true)
  | 29 => ("OptimaWorksModel", "nameOf", "[I", true)
  | 30 => ("OptimaWorksModel", "binders", "I", false)
  | 31 => ("OptimaWorksModel", "binderFrom", "[I", true)
  | 32 => ("OptimaWorksModel", "binderLong", "[I", true)
  | 33 => ("OptimaWorksModel", "ownFrom", "I", false)
  | 34 => ("OptimaWorksModel", "ownLong", "I", false)
  | 35 => ("OptimaWorksModel", "sets", "I", false)
  | 36 => ("OptimaWorksModel", "params", "I", false)
  | 37 => ("OptimaWorksModel", "vars", "I", false)
  | 38 => ("OptimaWorksModel", "numbers", "I", false)
  | 39 => ("OptimaWorksModel", "setLow", "[I", true)
  | 40 => ("OptimaWorksModel", "setMany", "[I", true)
  | 41 => ("OptimaWorksModel", "paramPlaces", "[I", true)
  | 42 => ("OptimaWorksModel", "paramOne", "[I", true)
  | 43 => ("OptimaWorksModel", "paramTwo", "[I", true)
  | 44 => ("OptimaWorksModel", "paramAt", "[I", true)
  | 45 => ("OptimaWorksModel", "paramTop", "[I", true)
  | 46 => ("OptimaWorksModel", "paramUnder", "[I", true)
  | 47 => ("OptimaWorksModel", "varPlaces", "[I", true)
  | 48 => ("OptimaWorksModel", "varOne", "[I", true)
  | 49 => ("OptimaWorksModel", "varTwo", "[I", true)
  | 50 => ("OptimaWorksModel", "varAt", "[I", true)
  | 51 => ("OptimaWorksModel", "varWhole", "[I", true)
  | 52 => ("OptimaWorksModel", "nodes", "I", false)
  | 53 => ("OptimaWorksModel", "kind", "[I", true)
  | 54 => ("OptimaWorksModel", "partA", "[I", true)
  | 55 => ("OptimaWorksModel", "partB", "[I", true)
  | 56 => ("OptimaWorksModel", "partC", "[I", true)
  | 57 => ("OptimaWorksModel", "where", "[I", true)
  | 58 => ("OptimaWorksModel", "firstA", "[I", true)
  | 59 => ("OptimaWorksModel", "firstB", "[I", true)
  | 60 => ("OptimaWorksModel", "bindings", "I", false)
  | 61 => ("OptimaWorksModel", "bindOne", "[I", true)
  | 62 => ("OptimaWorksModel", "bindTwo", "[I", true)
  | 63 => ("OptimaWorksModel", "bindAt", "[I", true)
  | 64 => ("OptimaWorksModel", "what", "[I", true)
  | 65 => ("OptimaWorksModel", "step", "[I", true)
  | 66 => ("OptimaWorksModel", "got1", "[I", true)
  | 67 => ("OptimaWorksModel", "got2", "[I", true)
  | 68 => ("OptimaWorksModel", "sign1", "[I", true)
  | 69 => ("OptimaWorksModel", "sign2", "[I", true)
  | 70 => ("OptimaWorksModel", "at1", "[I", true)
  | 71 => ("OptimaWorksModel", "at2", "[I", true)
  | 72 => ("OptimaWorksModel", "begins", "[I", true)
  | 73 => ("OptimaWorksModel", "extra", "[I", true)
  | 74 => ("OptimaWorksModel", "deep", "I", false)
  | 75 => ("OptimaWorksModel", "within", "I", false)
  | 76 => ("OptimaWorksModel", "result", "I", false)
  | 77 => ("OptimaWorksModel", "resultFirst", "I", false)
  | 78 => ("OptimaWorksModel", "top", "[I", true)
  | 79 => ("OptimaWorksModel", "under", "[I", true)
  | 80 => ("OptimaWorksModel", "env", "[I", true)
  | 81 => ("OptimaWorksModel", "piled", "I", false)
  | 82 => ("OptimaWorksModel", "steps", "I", false)
  | 83 => ("OptimaWorksModel", "begun", "I", false)
  | 84 => ("OptimaWorksModel", "truth", "Z", false)
  | 85 => ("OptimaWorksModel", "frame", "[I", true)
  | 86 => ("OptimaWorksModel", "stage", "[I", true)
  | 87 => ("OptimaWorksModel", "loopA", "[I", true)
  | 88 => ("OptimaWorksModel", "loopB", "[I", true)
  | 89 => ("OptimaWorksModel", "framed", "I", false)
  | 90 => ("OptimaWorksModel", "variables", "I", false)
  | 91 => ("OptimaWorksModel", "modelRows", "I", false)
  | 92 => ("OptimaWorksModel", "differents", "I", false)
  | 93 => ("OptimaWorksModel", "modelGoals", "I", false)
  | 94 => ("OptimaWorksModel", "cases", "I", false)
  | 95 => ("OptimaWorksModel", "isModel", "Z", false)
  | 96 => ("OptimaWorksModel", "low", "[I", true)
  | 97 => ("OptimaWorksModel", "high", "[I", true)
  | 98 => ("OptimaWorksModel", "whole", "[I", true)
  | 99 => ("OptimaWorksModel", "wayMany", "[I", true)
  | 100 => ("OptimaWorksModel", "wayNumber", "[I", true)
  | 101 => ("OptimaWorksModel", "waySign", "[I", true)
  | 102 => ("OptimaWorksModel", "differentSet", "[I", true)
  | 103 => ("OptimaWorksModel", "goalTop", "[I", true)
  | 104 => ("OptimaWorksModel", "goalUnder", "[I", true)
  | 105 => ("OptimaWorksModel", "goalMax", "[I", true)
  | 106 => ("OptimaWorksModel", "partNode", "[I", true)
  | 107 => ("OptimaWorksModel", "partFirst", "[I", true)
  | 108 => ("OptimaWorksModel", "partSign", "[I", true)
  | 109 => ("OptimaWorksModel", "partMany", "I", false)
  | 110 => ("OptimaWorksModel", "places", "I", false)
  | 111 => ("OptimaWorksModel", "placeOne", "I", false)
  | 112 => ("OptimaWorksModel", "placeTwo", "I", false)
  | 113 => ("OptimaWorksModel", "hasAnswer", "Z", false)
  | 114 => ("OptimaWorksModel", "chosen", "[I", true)
  | 115 => ("OptimaWorksModel", "value", "[I", true)
  | 116 => ("OptimaWorksModel", "fixes", "Z", false)
  | 117 => ("OptimaWorksModel", "hasProof", "Z", false)
  | 118 => ("OptimaWorksModel", "isShort", "Z", false)
  | 119 => ("OptimaWorksModel", "needs", "I", false)
  | 120 => ("OptimaWorksModel", "needKind", "[I", true)
  | 121 => ("OptimaWorksModel", "needOf", "[I", true)
  | 122 => ("OptimaWorksModel", "needKept", "[I", true)
  | 123 => ("OptimaWorksModel", "needColumn", "[I", true)
  | 124 => ("OptimaWorksModel", "out", "[B", true)
  | 125 => ("OptimaWorksModel", "printed", "I", false)
  | 126 => ("OptimaWorksModel", "digits", "[I", true)
  | 127 => ("OptimaWorksModel", "ready", "[I", true)
  | 128 => ("OptimaWorksModel", "holders", "I", false)
  | 129 => ("OptimaWorksModel", "rules", "I", false)
  | 130 => ("OptimaWorksModel", "domain", "[I", true)
  | 131 => ("OptimaWorksModel", "now", "[I", true)
  | 132 => ("OptimaWorksModel", "ruleKind", "[I", true)
  | 133 => ("OptimaWorksModel", "ruleA", "[I", true)
  | 134 => ("OptimaWorksModel", "ruleB", "[I", true)
  | 135 => ("OptimaWorksModel", "ruleC", "[I", true)
  | 136 => ("OptimaWorksModel", "rulePairs", "[I", true)
  | 137 => ("OptimaWorksModel", "pairs", "[I", true)
  | 138 => ("OptimaWorksModel", "barred", "I", false)
  | 139 => ("OptimaWorksModel", "with", "[I", true)
  | 140 => ("OptimaWorksModel", "taker", "[I", true)
  | 141 => ("OptimaWorksModel", "came", "[I", true)
  | 142 => ("OptimaWorksModel", "looked", "[I", true)
  | 143 => ("OptimaWorksModel", "rowValue", "[I", true)
  | 144 => ("OptimaWorksModel", "listedRow", "[I", true)
  | 145 => ("OptimaWorksModel", "listedMany", "I", false)
  | 146 => ("OptimaWorksModel", "clauses", "I", false)
  | 147 => ("OptimaWorksModel", "wants", "[I", true)
  | 148 => ("OptimaWorksModel", "wantsNot", "[I", true)
  | 149 => ("OptimaWorksModel", "weights", "[I", true)
  | 150 => ("OptimaWorksModel", "arcs", "I", false)
  | 151 => ("OptimaWorksModel", "arcFrom", "[I", true)
  | 152 => ("OptimaWorksModel", "arcTo", "[I", true)
  | 153 => ("OptimaWorksModel", "arcRoom", "[I", true)
  | 154 => ("OptimaWorksModel", "arcCost", "[I", true)
  | 155 => ("OptimaWorksModel", "flow", "[I", true)
  | 156 => ("OptimaWorksModel", "price", "[I", true)
  | 157 => ("OptimaWorksModel", "by", "[I", true)
  | 158 => ("OptimaWorksModel", "far", "[I", true)
  | 159 => ("OptimaWorksModel", "joined", "[I", true)
  | 160 => ("OptimaWorksModel", "member1", "[I", true)
  | 161 => ("OptimaWorksModel", "order", "[I", true)
  | _ => ("OptimaWorksModel", "tourBest", "[I", true)
def tyX12 : Nat → FieldType := fun k => match k with
  | 0 => .int
  | 1 => .array .int
  | 2 => .array .long
  | 3 => .array .int
  | 4 => .array .int
  | 5 => .int
  | 6 => .int
  | 7 => .int
  | 8 => .array .int
  | 9 => .array .int
  | 10 => .array .boolean
  | 11 => .boolean
  | 12 => .long
  | 13 => .array .long
  | 14 => .array .long
  | 15 => .array .byte
  | 16 => .int
  | 17 => .int
  | 18 => .int
  | 19 => .int
  | 20 => .int
  | 21 => .int
  | 22 => .int
  | 23 => .int
  | 24 => .int
  | 25 => .int
  | 26 => .array .int
  | 27 => .array .int
  | 28 => .array .int
  | 29 => .array .int
  | 30 => .int
  | 31 => .array .int
  | 32 => .array .int
  | 33 => .int
  | 34 => .int
  | 35 => .int
  | 36 => .int
  | 37 => .int
  | 38 => .int
  | 39 => .array .int
  | 40 => .array .int
  | 41 => .array .int
  | 42 => .array .int
  | 43 => .array .int
  | 44 => .array .int
  | 45 => .array .int
  | 46 => .array .int
  | 47 => .array .int
  | 48 => .array .int
  | 49 => .array .int
  | 50 => .array .int
  | 51 => .array .int
  | 52 => .int
  | 53 => .array .int
  | 54 => .array .int
  | 55 => .array .int
  | 56 => .array .int
  | 57 => .array .int
  | 58 => .array .int
  | 59 => .array .int
  | 60 => .int
  | 61 => .array .int
  | 62 => .array .int
  | 63 => .array .int
  | 64 => .array .int
  | 65 => .array .int
  | 66 => .array .int
  | 67 => .array .int
  | 68 => .array .int
  | 69 => .array .int
  | 70 => .array .int
  | 71 => .array .int
  | 72 => .array .int
  | 73 => .array .int
  | 74 => .int
  | 75 => .int
  | 76 => .int
  | 77 => .int
  | 78 => .array .int
  | 79 => .array .int
  | 80 => .array .int
  | 81 => .int
  | 82 => .int
  | 83 => .int
  | 84 => .boolean
  | 85 => .array .int
  | 86 => .array .int
  | 87 => .array .int
  | 88 => .array .int
  | 89 => .int
  | 90 => .int
  | 91 => .int
  | 92 => .int
  | 93 => .int
  | 94 => .int
  | 95 => .boolean
  | 96 => .array .int
  | 97 => .array .int
  | 98 => .array .int
  | 99 => .array .int
  | 100 => .array .int
  | 101 => .array .int
  | 102 => .array .int
  | 103 => .array .int
  | 104 => .array .int
  | 105 => .array .int
  | 106 => .array .int
  | 107 => .array .int
  | 108 => .array .int
  | 109 => .int
  | 110 => .int
  | 111 => .int
  | 112 => .int
  | 113 => .boolean
  | 114 => .array .int
  | 115 => .array .int
  | 116 => .boolean
  | 117 => .boolean
  | 118 => .boolean
  | 119 => .int
  | 120 => .array .int
  | 121 => .array .int
  | 122 => .array .int
  | 123 => .array .int
  | 124 => .array .byte
  | 125 => .int
  | 126 => .array .int
  | 127 => .array .int
  | 128 => .int
  | 129 => .int
  | 130 => .array .int
  | 131 => .array .int
  | 132 => .array .int
  | 133 => .array .int
  | 134 => .array .int
  | 135 => .array .int
  | 136 => .array .int
  | 137 => .array .int
  | 138 => .int
  | 139 => .array .int
  | 140 => .array .int
  | 141 => .array .int
  | 142 => .array .int
  | 143 => .array .int
  | 144 => .array .int
  | 145 => .int
  | 146 => .int
  | 147 => .array .int
  | 148 => .array .int
  | 149 => .array .int
  | 150 => .int
  | 151 => .array .int
  | 152 => .array .int
  | 153 => .array .int
  | 154 => .array .int
  | 155 => .array .int
  | 156 => .array .int
  | 157 => .array .int
  | 158 => .array .int
  | 159 => .array .int
  | 160 => .array .int
  | 161 => .array .int
  | _ => .array .int
abbrev wsX120 : List Cond := u_ws RX12 TX12 163
theorem nmX12 : ∀ a, a < 163 → ∀ b, b < 163 → a ≠ b → (TX12 a).2.1 ≠ (TX12 b).2.1 := by decide +kernel
theorem tyX12_ok : ∀ k, k < 163 → parseFieldDescriptor (TX12 k).2.2.1 = some (tyX12 k) := by decide +kernel
abbrev cX12_init : ByteArray := prog_14_method_1_code
def yX12_init : MethodName := ⟨RX12, "<init>", "()V"⟩
abbrev cX12_thrown : ByteArray := prog_14_method_2_code
def yX12_thrown : MethodName := ⟨RX12, "thrown", "()I"⟩
abbrev cX12_put : ByteArray := prog_14_method_3_code
def yX12_put : MethodName := ⟨RX12, "put", "(IJ)V"⟩
abbrev cX12_copy : ByteArray := prog_14_method_4_code
def yX12_copy : MethodName := ⟨RX12, "copy", "(II)V"⟩
abbrev cX12_sign : ByteArray := prog_14_method_5_code
def yX12_sign : MethodName := ⟨RX12, "sign", "(I)I"⟩
abbrev cX12_turn : ByteArray := prog_14_method_6_code
def yX12_turn : MethodName := ⟨RX12, "turn", "(I)V"⟩
abbrev cX12_bare : ByteArray := prog_14_method_7_code
def yX12_bare : MethodName := ⟨RX12, "bare", "(II)I"⟩
abbrev cX12_compare : ByteArray := prog_14_method_8_code
def yX12_compare : MethodName := ⟨RX12, "compare", "(II)I"⟩
abbrev cX12_carry : ByteArray := prog_14_method_9_code
def yX12_carry : MethodName := ⟨RX12, "carry", "(III)V"⟩
abbrev cX12_add : ByteArray := prog_14_method_10_code
def yX12_add : MethodName := ⟨RX12, "add", "(IIII)V"⟩
abbrev cX12_times : ByteArray := prog_14_method_11_code
def yX12_times : MethodName := ⟨RX12, "times", "(III)V"⟩
abbrev cX12_divide : ByteArray := prog_14_method_12_code
def yX12_divide : MethodName := ⟨RX12, "divide", "(IIII)V"⟩
abbrev cX12_isMore : ByteArray := prog_14_method_13_code
def yX12_isMore : MethodName := ⟨RX12, "isMore", "(I)Z"⟩
abbrev cX12_common : ByteArray := prog_14_method_14_code
def yX12_common : MethodName := ⟨RX12, "common", "(III)V"⟩
abbrev cX12_shorten : ByteArray := prog_14_method_15_code
def yX12_shorten : MethodName := ⟨RX12, "shorten", "(II)V"⟩
abbrev cX12_against : ByteArray := prog_14_method_16_code
def yX12_against : MethodName := ⟨RX12, "against", "(IIII)I"⟩
abbrev cX12_at : ByteArray := prog_14_method_17_code
def yX12_at : MethodName := ⟨RX12, "at", "(II)I"⟩
abbrev cX12_begin : ByteArray := prog_14_method_18_code
def yX12_begin : MethodName := ⟨RX12, "begin", "(I)V"⟩
abbrev cX12_newRow : ByteArray := prog_14_method_19_code
def yX12_newRow : MethodName := ⟨RX12, "newRow", "()I"⟩
abbrev cX12_newLine : ByteArray := prog_14_method_20_code
def yX12_newLine : MethodName := ⟨RX12, "newLine", "()I"⟩
abbrev cX12_goalRow : ByteArray := prog_14_method_21_code
def yX12_goalRow : MethodName := ⟨RX12, "goalRow", "()I"⟩
abbrev cX12_place1 : ByteArray := prog_14_method_22_code
def yX12_place1 : MethodName := ⟨RX12, "place1", "(II)I"⟩
abbrev cX12_hasten : ByteArray := prog_14_method_23_code
def yX12_hasten : MethodName := ⟨RX12, "hasten", "()V"⟩
abbrev cX12_worth : ByteArray := prog_14_method_24_code
def yX12_worth : MethodName := ⟨RX12, "worth", "(I)J"⟩
abbrev cX12_spill : ByteArray := prog_14_method_25_code
def yX12_spill : MethodName := ⟨RX12, "spill", "()V"⟩
abbrev cX12_pivotsQuick : ByteArray := prog_14_method_26_code
def yX12_pivotsQuick : MethodName := ⟨RX12, "pivotsQuick", "(II)Z"⟩
abbrev cX12_exchange : ByteArray := prog_14_method_27_code
def yX12_exchange : MethodName := ⟨RX12, "exchange", "(II)V"⟩
abbrev cX12_signAt : ByteArray := prog_14_method_28_code
def yX12_signAt : MethodName := ⟨RX12, "signAt", "(II)I"⟩
abbrev cX12_pivot : ByteArray := prog_14_method_29_code
def yX12_pivot : MethodName := ⟨RX12, "pivot", "(II)V"⟩
abbrev cX12_lies : ByteArray := prog_14_method_30_code
def yX12_lies : MethodName := ⟨RX12, "lies", "(III)I"⟩
abbrev cX12_leaving : ByteArray := prog_14_method_31_code
def yX12_leaving : MethodName := ⟨RX12, "leaving", "(I)I"⟩
abbrev cX12_raise : ByteArray := prog_14_method_32_code
def yX12_raise : MethodName := ⟨RX12, "raise", "(I)Z"⟩
abbrev cX12_start : ByteArray := prog_14_method_33_code
def yX12_start : MethodName := ⟨RX12, "start", "()V"⟩
abbrev cX12_canKeep : ByteArray := prog_14_method_34_code
def yX12_canKeep : MethodName := ⟨RX12, "canKeep", "()Z"⟩
abbrev cX12_thing : ByteArray := prog_14_method_35_code
def yX12_thing : MethodName := ⟨RX12, "thing", "(II)V"⟩
abbrev cX12_byteAt : ByteArray := prog_14_method_36_code
def yX12_byteAt : MethodName := ⟨RX12, "byteAt", "(I)I"⟩
abbrev cX12_isLetter : ByteArray := prog_14_method_37_code
def yX12_isLetter : MethodName := ⟨RX12, "isLetter", "(I)Z"⟩
abbrev cX12_isDigit : ByteArray := prog_14_method_38_code
def yX12_isDigit : MethodName := ⟨RX12, "isDigit", "(I)Z"⟩
abbrev cX12_keyLetter : ByteArray := prog_14_method_39_code
def yX12_keyLetter : MethodName := ⟨RX12, "keyLetter", "(I)I"⟩
abbrev cX12_key : ByteArray := prog_14_method_40_code
def yX12_key : MethodName := ⟨RX12, "key", "(II)I"⟩
abbrev cX12_next : ByteArray := prog_14_method_41_code
def yX12_next : MethodName := ⟨RX12, "next", "()V"⟩
abbrev cX12_takeName : ByteArray := prog_14_method_42_code
def yX12_takeName : MethodName := ⟨RX12, "takeName", "()V"⟩
abbrev cX12_takeNumber : ByteArray := prog_14_method_43_code
def yX12_takeNumber : MethodName := ⟨RX12, "takeNumber", "()V"⟩
abbrev cX12_takeSign : ByteArray := prog_14_method_44_code
def yX12_takeSign : MethodName := ⟨RX12, "takeSign", "(I)V"⟩
abbrev cX12_isSign : ByteArray := prog_14_method_45_code
def yX12_isSign : MethodName := ⟨RX12, "isSign", "(I)Z"⟩
abbrev cX12_isKey : ByteArray := prog_14_method_46_code
def yX12_isKey : MethodName := ⟨RX12, "isKey", "(I)Z"⟩
abbrev cX12_faultAt : ByteArray := prog_14_method_47_code
def yX12_faultAt : MethodName := ⟨RX12, "faultAt", "(II)V"⟩
abbrev cX12_wrong : ByteArray := prog_14_method_48_code
def yX12_wrong : MethodName := ⟨RX12, "wrong", "()V"⟩
abbrev cX12_needSign : ByteArray := prog_14_method_49_code
def yX12_needSign : MethodName := ⟨RX12, "needSign", "(I)Z"⟩
abbrev cX12_needKey : ByteArray := prog_14_method_50_code
def yX12_needKey : MethodName := ⟨RX12, "needKey", "(I)Z"⟩
abbrev cX12_sameText : ByteArray := prog_14_method_51_code
def yX12_sameText : MethodName := ⟨RX12, "sameText", "(IIII)Z"⟩
abbrev cX12_declared : ByteArray := prog_14_method_52_code
def yX12_declared : MethodName := ⟨RX12, "declared", "()I"⟩
abbrev cX12_binder : ByteArray := prog_14_method_53_code
def yX12_binder : MethodName := ⟨RX12, "binder", "()I"⟩
abbrev cX12_node : ByteArray := prog_14_method_54_code
def yX12_node : MethodName := ⟨RX12, "node", "(IIIII)I"⟩
abbrev cX12_readBinding : ByteArray := prog_14_method_55_code
def yX12_readBinding : MethodName := ⟨RX12, "readBinding", "()I"⟩
abbrev cX12_readBinder : ByteArray := prog_14_method_56_code
def yX12_readBinder : MethodName := ⟨RX12, "readBinder", "()I"⟩
abbrev cX12_readSet : ByteArray := prog_14_method_57_code
def yX12_readSet : MethodName := ⟨RX12, "readSet", "()I"⟩
abbrev cX12_isNode : ByteArray := prog_14_method_58_code
def yX12_isNode : MethodName := ⟨RX12, "isNode", "(I)Z"⟩
abbrev cX12_canBegin : ByteArray := prog_14_method_59_code
def yX12_canBegin : MethodName := ⟨RX12, "canBegin", "()Z"⟩
abbrev cX12_begin1 : ByteArray := prog_14_method_60_code
def yX12_begin1 : MethodName := ⟨RX12, "begin1", "(I)V"⟩
abbrev cX12_end1 : ByteArray := prog_14_method_61_code
def yX12_end1 : MethodName := ⟨RX12, "end1", "(I)V"⟩
abbrev cX12_read1 : ByteArray := prog_14_method_62_code
def yX12_read1 : MethodName := ⟨RX12, "read1", "(I)I"⟩
abbrev cX12_readLinear : ByteArray := prog_14_method_63_code
def yX12_readLinear : MethodName := ⟨RX12, "readLinear", "(I)V"⟩
abbrev cX12_readFactor : ByteArray := prog_14_method_64_code
def yX12_readFactor : MethodName := ⟨RX12, "readFactor", "(I)V"⟩
abbrev cX12_placesOf : ByteArray := prog_14_method_65_code
def yX12_placesOf : MethodName := ⟨RX12, "placesOf", "(I)I"⟩
abbrev cX12_closeSum : ByteArray := prog_14_method_66_code
def yX12_closeSum : MethodName := ⟨RX12, "closeSum", "(I)V"⟩
abbrev cX12_beginFactor : ByteArray := prog_14_method_67_code
def yX12_beginFactor : MethodName := ⟨RX12, "beginFactor", "(I)V"⟩
abbrev cX12_beginName : ByteArray := prog_14_method_68_code
def yX12_beginName : MethodName := ⟨RX12, "beginName", "(I)V"⟩
abbrev cX12_readTruth : ByteArray := prog_14_method_69_code
def yX12_readTruth : MethodName := ⟨RX12, "readTruth", "(I)V"⟩
abbrev cX12_readOne : ByteArray := prog_14_method_70_code
def yX12_readOne : MethodName := ⟨RX12, "readOne", "(I)V"⟩
abbrev cX12_common1 : ByteArray := prog_14_method_71_code
def yX12_common1 : MethodName := ⟨RX12, "common1", "(JJ)J"⟩
abbrev cX12_put1 : ByteArray := prog_14_method_72_code
def yX12_put1 : MethodName := ⟨RX12, "put1", "(IIJJI)V"⟩
abbrev cX12_nought : ByteArray := prog_14_method_73_code
def yX12_nought : MethodName := ⟨RX12, "nought", "(I)V"⟩
abbrev cX12_hasVariables : ByteArray := prog_14_method_74_code
def yX12_hasVariables : MethodName := ⟨RX12, "hasVariables", "(I)Z"⟩
abbrev cX12_join : ByteArray := prog_14_method_75_code
def yX12_join : MethodName := ⟨RX12, "join", "(IIII)V"⟩
abbrev cX12_scale : ByteArray := prog_14_method_76_code
def yX12_scale : MethodName := ⟨RX12, "scale", "(IIZI)V"⟩
abbrev cX12_stepOne : ByteArray := prog_14_method_77_code
def yX12_stepOne : MethodName := ⟨RX12, "stepOne", "()V"⟩
abbrev cX12_call : ByteArray := prog_14_method_78_code
def yX12_call : MethodName := ⟨RX12, "call", "(I)V"⟩
abbrev cX12_work : ByteArray := prog_14_method_79_code
def yX12_work : MethodName := ⟨RX12, "work", "(I)V"⟩
abbrev cX12_workFrame : ByteArray := prog_14_method_80_code
def yX12_workFrame : MethodName := ⟨RX12, "workFrame", "(I)V"⟩
abbrev cX12_workPair : ByteArray := prog_14_method_81_code
def yX12_workPair : MethodName := ⟨RX12, "workPair", "(II)V"⟩
abbrev cX12_member : ByteArray := prog_14_method_82_code
def yX12_member : MethodName := ⟨RX12, "member", "(II)I"⟩
abbrev cX12_workName : ByteArray := prog_14_method_83_code
def yX12_workName : MethodName := ⟨RX12, "workName", "(II)V"⟩
abbrev cX12_bind : ByteArray := prog_14_method_84_code
def yX12_bind : MethodName := ⟨RX12, "bind", "(II)V"⟩
abbrev cX12_membersOf : ByteArray := prog_14_method_85_code
def yX12_membersOf : MethodName := ⟨RX12, "membersOf", "(I)I"⟩
abbrev cX12_workSum : ByteArray := prog_14_method_86_code
def yX12_workSum : MethodName := ⟨RX12, "workSum", "(II)V"⟩
abbrev cX12_workJoined : ByteArray := prog_14_method_87_code
def yX12_workJoined : MethodName := ⟨RX12, "workJoined", "(II)V"⟩
abbrev cX12_workCompare : ByteArray := prog_14_method_88_code
def yX12_workCompare : MethodName := ⟨RX12, "workCompare", "(II)V"⟩
abbrev cX12_readPart : ByteArray := prog_14_method_89_code
def yX12_readPart : MethodName := ⟨RX12, "readPart", "()V"⟩
abbrev cX12_readOwn : ByteArray := prog_14_method_90_code
def yX12_readOwn : MethodName := ⟨RX12, "readOwn", "()V"⟩
abbrev cX12_declare : ByteArray := prog_14_method_91_code
def yX12_declare : MethodName := ⟨RX12, "declare", "(II)V"⟩
abbrev cX12_readPlaces : ByteArray := prog_14_method_92_code
def yX12_readPlaces : MethodName := ⟨RX12, "readPlaces", "()V"⟩
abbrev cX12_placeMembers : ByteArray := prog_14_method_93_code
def yX12_placeMembers : MethodName := ⟨RX12, "placeMembers", "()I"⟩
abbrev cX12_fresh : ByteArray := prog_14_method_94_code
def yX12_fresh : MethodName := ⟨RX12, "fresh", "()V"⟩
abbrev cX12_readDeclaration : ByteArray := prog_14_method_95_code
def yX12_readDeclaration : MethodName := ⟨RX12, "readDeclaration", "()V"⟩
abbrev cX12_readWhole : ByteArray := prog_14_method_96_code
def yX12_readWhole : MethodName := ⟨RX12, "readWhole", "()I"⟩
abbrev cX12_readSetOf : ByteArray := prog_14_method_97_code
def yX12_readSetOf : MethodName := ⟨RX12, "readSetOf", "()V"⟩
abbrev cX12_workNumber : ByteArray := prog_14_method_98_code
def yX12_workNumber : MethodName := ⟨RX12, "workNumber", "(I)V"⟩
abbrev cX12_readParam : ByteArray := prog_14_method_99_code
def yX12_readParam : MethodName := ⟨RX12, "readParam", "()V"⟩
abbrev cX12_bound : ByteArray := prog_14_method_100_code
def yX12_bound : MethodName := ⟨RX12, "bound", "(I)I"⟩
abbrev cX12_readVar : ByteArray := prog_14_method_101_code
def yX12_readVar : MethodName := ⟨RX12, "readVar", "()V"⟩
abbrev cX12_grow : ByteArray := prog_14_method_102_code
def yX12_grow : MethodName := ⟨RX12, "grow", "(II)V"⟩
abbrev cX12_readRow : ByteArray := prog_14_method_103_code
def yX12_readRow : MethodName := ⟨RX12, "readRow", "()V"⟩
abbrev cX12_doRow : ByteArray := prog_14_method_104_code
def yX12_doRow : MethodName := ⟨RX12, "doRow", "(IIII)V"⟩
abbrev cX12_keep : ByteArray := prog_14_method_105_code
def yX12_keep : MethodName := ⟨RX12, "keep", "(IIII)V"⟩
abbrev cX12_whole1 : ByteArray := prog_14_method_106_code
def yX12_whole1 : MethodName := ⟨RX12, "whole1", "(I)V"⟩
abbrev cX12_small : ByteArray := prog_14_method_107_code
def yX12_small : MethodName := ⟨RX12, "small", "(I)I"⟩
abbrev cX12_readDifferent : ByteArray := prog_14_method_108_code
def yX12_readDifferent : MethodName := ⟨RX12, "readDifferent", "()V"⟩
abbrev cX12_readGoal : ByteArray := prog_14_method_109_code
def yX12_readGoal : MethodName := ⟨RX12, "readGoal", "()V"⟩
abbrev cX12_read : ByteArray := prog_14_method_110_code
def yX12_read : MethodName := ⟨RX12, "read", "()I"⟩
abbrev cX12_wayRow : ByteArray := prog_14_method_111_code
def yX12_wayRow : MethodName := ⟨RX12, "wayRow", "(II)V"⟩
abbrev cX12_least : ByteArray := prog_14_method_112_code
def yX12_least : MethodName := ⟨RX12, "least", "(I)I"⟩
abbrev cX12_waysOf : ByteArray := prog_14_method_113_code
def yX12_waysOf : MethodName := ⟨RX12, "waysOf", "(I)V"⟩
abbrev cX12_scaleOf : ByteArray := prog_14_method_114_code
def yX12_scaleOf : MethodName := ⟨RX12, "scaleOf", "(I)V"⟩
abbrev cX12_goalNumber : ByteArray := prog_14_method_115_code
def yX12_goalNumber : MethodName := ⟨RX12, "goalNumber", "(II)V"⟩
abbrev cX12_solves : ByteArray := prog_14_method_116_code
def yX12_solves : MethodName := ⟨RX12, "solves", "(ZZ)Z"⟩
abbrev cX12_tryIt : ByteArray := prog_14_method_117_code
def yX12_tryIt : MethodName := ⟨RX12, "tryIt", "()V"⟩
abbrev cX12_goalOf : ByteArray := prog_14_method_118_code
def yX12_goalOf : MethodName := ⟨RX12, "goalOf", "(II)V"⟩
abbrev cX12_isBetter : ByteArray := prog_14_method_119_code
def yX12_isBetter : MethodName := ⟨RX12, "isBetter", "()Z"⟩
abbrev cX12_differ : ByteArray := prog_14_method_120_code
def yX12_differ : MethodName := ⟨RX12, "differ", "()Z"⟩
abbrev cX12_firstValues : ByteArray := prog_14_method_121_code
def yX12_firstValues : MethodName := ⟨RX12, "firstValues", "()V"⟩
abbrev cX12_nextValues : ByteArray := prog_14_method_122_code
def yX12_nextValues : MethodName := ⟨RX12, "nextValues", "()Z"⟩
abbrev cX12_firstWays : ByteArray := prog_14_method_123_code
def yX12_firstWays : MethodName := ⟨RX12, "firstWays", "()V"⟩
abbrev cX12_nextWays : ByteArray := prog_14_method_124_code
def yX12_nextWays : MethodName := ⟨RX12, "nextWays", "()Z"⟩
abbrev cX12_solve : ByteArray := prog_14_method_125_code
def yX12_solve : MethodName := ⟨RX12, "solve", "(Z)Z"⟩
abbrev cX12_take : ByteArray := prog_14_method_126_code
def yX12_take : MethodName := ⟨RX12, "take", "()V"⟩
abbrev cX12_counts : ByteArray := prog_14_method_127_code
def yX12_counts : MethodName := ⟨RX12, "counts", "()Z"⟩
abbrev cX12_count : ByteArray := prog_14_method_128_code
def yX12_count : MethodName := ⟨RX12, "count", "()I"⟩
abbrev cX12_counted : ByteArray := prog_14_method_129_code
def yX12_counted : MethodName := ⟨RX12, "counted", "(II)I"⟩
abbrev cX12_listNeeds : ByteArray := prog_14_method_130_code
def yX12_listNeeds : MethodName := ⟨RX12, "listNeeds", "()V"⟩
abbrev cX12_need1 : ByteArray := prog_14_method_131_code
def yX12_need1 : MethodName := ⟨RX12, "need1", "(II)V"⟩
abbrev cX12_needNumber : ByteArray := prog_14_method_132_code
def yX12_needNumber : MethodName := ⟨RX12, "needNumber", "(II)I"⟩
abbrev cX12_isEqual : ByteArray := prog_14_method_133_code
def yX12_isEqual : MethodName := ⟨RX12, "isEqual", "(I)Z"⟩
abbrev cX12_addsUp : ByteArray := prog_14_method_134_code
def yX12_addsUp : MethodName := ⟨RX12, "addsUp", "()Z"⟩
abbrev cX12_spread : ByteArray := prog_14_method_135_code
def yX12_spread : MethodName := ⟨RX12, "spread", "(IIII)V"⟩
abbrev cX12_proves : ByteArray := prog_14_method_136_code
def yX12_proves : MethodName := ⟨RX12, "proves", "()Z"⟩
abbrev cX12_prove : ByteArray := prog_14_method_137_code
def yX12_prove : MethodName := ⟨RX12, "prove", "()I"⟩
abbrev cX12_best1 : ByteArray := prog_14_method_138_code
def yX12_best1 : MethodName := ⟨RX12, "best1", "()V"⟩
abbrev cX12_shortBest : ByteArray := prog_14_method_139_code
def yX12_shortBest : MethodName := ⟨RX12, "shortBest", "()V"⟩
abbrev cX12_multipliers : ByteArray := prog_14_method_140_code
def yX12_multipliers : MethodName := ⟨RX12, "multipliers", "()V"⟩
abbrev cX12_need : ByteArray := prog_14_method_141_code
def yX12_need : MethodName := ⟨RX12, "need", "(II)I"⟩
abbrev cX12_say : ByteArray := prog_14_method_142_code
def yX12_say : MethodName := ⟨RX12, "say", "(I)V"⟩
abbrev cX12_sayNumber : ByteArray := prog_14_method_143_code
def yX12_sayNumber : MethodName := ⟨RX12, "sayNumber", "(I)V"⟩
abbrev cX12_sayBig : ByteArray := prog_14_method_144_code
def yX12_sayBig : MethodName := ⟨RX12, "sayBig", "(I)V"⟩
abbrev cX12_sayFraction : ByteArray := prog_14_method_145_code
def yX12_sayFraction : MethodName := ⟨RX12, "sayFraction", "(II)V"⟩
abbrev cX12_canTell : ByteArray := prog_14_method_146_code
def yX12_canTell : MethodName := ⟨RX12, "canTell", "(II)Z"⟩
abbrev cX12_value : ByteArray := prog_14_method_147_code
def yX12_value : MethodName := ⟨RX12, "value", "(I)I"⟩
abbrev cX12_best : ByteArray := prog_14_method_148_code
def yX12_best : MethodName := ⟨RX12, "best", "(I)I"⟩
abbrev cX12_way : ByteArray := prog_14_method_149_code
def yX12_way : MethodName := ⟨RX12, "way", "(I)I"⟩
abbrev cX12_multiplier : ByteArray := prog_14_method_150_code
def yX12_multiplier : MethodName := ⟨RX12, "multiplier", "(I)I"⟩
abbrev cX12_textLetter : ByteArray := prog_14_method_151_code
def yX12_textLetter : MethodName := ⟨RX12, "textLetter", "(I)I"⟩
abbrev cX12_sayText : ByteArray := prog_14_method_152_code
def yX12_sayText : MethodName := ⟨RX12, "sayText", "(II)V"⟩
abbrev cX12_sayPart : ByteArray := prog_14_method_153_code
def yX12_sayPart : MethodName := ⟨RX12, "sayPart", "(II)V"⟩
abbrev cX12_sayTerm : ByteArray := prog_14_method_154_code
def yX12_sayTerm : MethodName := ⟨RX12, "sayTerm", "(IIIZ)V"⟩
abbrev cX12_sayWay : ByteArray := prog_14_method_155_code
def yX12_sayWay : MethodName := ⟨RX12, "sayWay", "(I)V"⟩
abbrev cX12_sayGoal : ByteArray := prog_14_method_156_code
def yX12_sayGoal : MethodName := ⟨RX12, "sayGoal", "(I)V"⟩
abbrev cX12_endLine : ByteArray := prog_14_method_157_code
def yX12_endLine : MethodName := ⟨RX12, "endLine", "()V"⟩
abbrev cX12_write : ByteArray := prog_14_method_158_code
def yX12_write : MethodName := ⟨RX12, "write", "()I"⟩
abbrev cX12_letter : ByteArray := prog_14_method_159_code
def yX12_letter : MethodName := ⟨RX12, "letter", "(I)I"⟩
abbrev cX12_feed : ByteArray := prog_14_method_160_code
def yX12_feed : MethodName := ⟨RX12, "feed", "(IIIII)V"⟩
abbrev cX12_end : ByteArray := prog_14_method_161_code
def yX12_end : MethodName := ⟨RX12, "end", "(I)I"⟩
abbrev cX12_wipe : ByteArray := prog_14_method_162_code
def yX12_wipe : MethodName := ⟨RX12, "wipe", "()V"⟩
abbrev cX12_fault : ByteArray := prog_14_method_163_code
def yX12_fault : MethodName := ⟨RX12, "fault", "(I)I"⟩
abbrev cX12_variable : ByteArray := prog_14_method_164_code
def yX12_variable : MethodName := ⟨RX12, "variable", "(II)I"⟩
abbrev cX12_row : ByteArray := prog_14_method_165_code
def yX12_row : MethodName := ⟨RX12, "row", "(III)I"⟩
abbrev cX12_goal : ByteArray := prog_14_method_166_code
def yX12_goal : MethodName := ⟨RX12, "goal", "(IIZ)I"⟩
abbrev cX12_about : ByteArray := prog_14_method_167_code
def yX12_about : MethodName := ⟨RX12, "about", "(I)I"⟩
abbrev cX12_holder : ByteArray := prog_14_method_168_code
def yX12_holder : MethodName := ⟨RX12, "holder", "(I)I"⟩
abbrev cX12_isSet : ByteArray := prog_14_method_169_code
def yX12_isSet : MethodName := ⟨RX12, "isSet", "(I)Z"⟩
abbrev cX12_isHolder : ByteArray := prog_14_method_170_code
def yX12_isHolder : MethodName := ⟨RX12, "isHolder", "(I)Z"⟩
abbrev cX12_isRule : ByteArray := prog_14_method_171_code
def yX12_isRule : MethodName := ⟨RX12, "isRule", "(IIII)Z"⟩
abbrev cX12_rule : ByteArray := prog_14_method_172_code
def yX12_rule : MethodName := ⟨RX12, "rule", "(IIII)I"⟩
abbrev cX12_pair : ByteArray := prog_14_method_173_code
def yX12_pair : MethodName := ⟨RX12, "pair", "(II)Z"⟩
abbrev cX12_clear : ByteArray := prog_14_method_174_code
def yX12_clear : MethodName := ⟨RX12, "clear", "()V"⟩
abbrev cX12_ones : ByteArray := prog_14_method_175_code
def yX12_ones : MethodName := ⟨RX12, "ones", "(I)I"⟩
abbrev cX12_scope : ByteArray := prog_14_method_176_code
def yX12_scope : MethodName := ⟨RX12, "scope", "(I)I"⟩
abbrev cX12_canHold : ByteArray := prog_14_method_177_code
def yX12_canHold : MethodName := ⟨RX12, "canHold", "(I)Z"⟩
abbrev cX12_canDiffer : ByteArray := prog_14_method_178_code
def yX12_canDiffer : MethodName := ⟨RX12, "canDiffer", "(I)Z"⟩
abbrev cX12_finds : ByteArray := prog_14_method_179_code
def yX12_finds : MethodName := ⟨RX12, "finds", "(I)Z"⟩
abbrev cX12_move : ByteArray := prog_14_method_180_code
def yX12_move : MethodName := ⟨RX12, "move", "(II)V"⟩
abbrev cX12_canOrder : ByteArray := prog_14_method_181_code
def yX12_canOrder : MethodName := ⟨RX12, "canOrder", "(III)Z"⟩
abbrev cX12_canSum : ByteArray := prog_14_method_182_code
def yX12_canSum : MethodName := ⟨RX12, "canSum", "(III)Z"⟩
abbrev cX12_must : ByteArray := prog_14_method_183_code
def yX12_must : MethodName := ⟨RX12, "must", "(II)I"⟩
abbrev cX12_canPair : ByteArray := prog_14_method_184_code
def yX12_canPair : MethodName := ⟨RX12, "canPair", "(I)Z"⟩
abbrev cX12_supports : ByteArray := prog_14_method_185_code
def yX12_supports : MethodName := ⟨RX12, "supports", "(III)Z"⟩
abbrev cX12_leave : ByteArray := prog_14_method_186_code
def yX12_leave : MethodName := ⟨RX12, "leave", "()V"⟩
abbrev cX12_leaveAll : ByteArray := prog_14_method_187_code
def yX12_leaveAll : MethodName := ⟨RX12, "leaveAll", "()V"⟩
abbrev cX12_left : ByteArray := prog_14_method_188_code
def yX12_left : MethodName := ⟨RX12, "left", "(I)I"⟩
abbrev cX12_reason : ByteArray := prog_14_method_189_code
def yX12_reason : MethodName := ⟨RX12, "reason", "(II)I"⟩
abbrev cX12_keepsRule : ByteArray := prog_14_method_190_code
def yX12_keepsRule : MethodName := ⟨RX12, "keepsRule", "(I)Z"⟩
abbrev cX12_above : ByteArray := prog_14_method_191_code
def yX12_above : MethodName := ⟨RX12, "above", "(I)I"⟩
abbrev cX12_list : ByteArray := prog_14_method_192_code
def yX12_list : MethodName := ⟨RX12, "list", "()I"⟩
abbrev cX12_listing : ByteArray := prog_14_method_193_code
def yX12_listing : MethodName := ⟨RX12, "listing", "()I"⟩
abbrev cX12_listed : ByteArray := prog_14_method_194_code
def yX12_listed : MethodName := ⟨RX12, "listed", "(II)I"⟩
abbrev cX12_clause : ByteArray := prog_14_method_195_code
def yX12_clause : MethodName := ⟨RX12, "clause", "(III)I"⟩
abbrev cX12_unsay : ByteArray := prog_14_method_196_code
def yX12_unsay : MethodName := ⟨RX12, "unsay", "()Z"⟩
abbrev cX12_keeps : ByteArray := prog_14_method_197_code
def yX12_keeps : MethodName := ⟨RX12, "keeps", "(II)Z"⟩
abbrev cX12_cost : ByteArray := prog_14_method_198_code
def yX12_cost : MethodName := ⟨RX12, "cost", "(I)I"⟩
abbrev cX12_models : ByteArray := prog_14_method_199_code
def yX12_models : MethodName := ⟨RX12, "models", "(I)I"⟩
abbrev cX12_core : ByteArray := prog_14_method_200_code
def yX12_core : MethodName := ⟨RX12, "core", "()I"⟩
abbrev cX12_truth : ByteArray := prog_14_method_201_code
def yX12_truth : MethodName := ⟨RX12, "truth", "(I)I"⟩
abbrev cX12_isPlace : ByteArray := prog_14_method_202_code
def yX12_isPlace : MethodName := ⟨RX12, "isPlace", "(I)Z"⟩
abbrev cX12_arc : ByteArray := prog_14_method_203_code
def yX12_arc : MethodName := ⟨RX12, "arc", "(IIII)I"⟩
abbrev cX12_unarc : ByteArray := prog_14_method_204_code
def yX12_unarc : MethodName := ⟨RX12, "unarc", "()Z"⟩
abbrev cX12_areEnds : ByteArray := prog_14_method_205_code
def yX12_areEnds : MethodName := ⟨RX12, "areEnds", "(II)Z"⟩
abbrev cX12_relax : ByteArray := prog_14_method_206_code
def yX12_relax : MethodName := ⟨RX12, "relax", "(IIII)Z"⟩
abbrev cX12_send : ByteArray := prog_14_method_207_code
def yX12_send : MethodName := ⟨RX12, "send", "(III)I"⟩
abbrev cX12_push : ByteArray := prog_14_method_208_code
def yX12_push : MethodName := ⟨RX12, "push", "(III)I"⟩
abbrev cX12_greatest : ByteArray := prog_14_method_209_code
def yX12_greatest : MethodName := ⟨RX12, "greatest", "(II)I"⟩
abbrev cX12_cut : ByteArray := prog_14_method_210_code
def yX12_cut : MethodName := ⟨RX12, "cut", "(II)I"⟩
abbrev cX12_cheapest : ByteArray := prog_14_method_211_code
def yX12_cheapest : MethodName := ⟨RX12, "cheapest", "(III)I"⟩
abbrev cX12_path : ByteArray := prog_14_method_212_code
def yX12_path : MethodName := ⟨RX12, "path", "(III)I"⟩
abbrev cX12_follows : ByteArray := prog_14_method_213_code
def yX12_follows : MethodName := ⟨RX12, "follows", "(I)I"⟩
abbrev cX12_tree : ByteArray := prog_14_method_214_code
def yX12_tree : MethodName := ⟨RX12, "tree", "()J"⟩
abbrev cX12_link : ByteArray := prog_14_method_215_code
def yX12_link : MethodName := ⟨RX12, "link", "(II)I"⟩
abbrev cX12_tourCost : ByteArray := prog_14_method_216_code
def yX12_tourCost : MethodName := ⟨RX12, "tourCost", "(I)I"⟩
abbrev cX12_nextOrder : ByteArray := prog_14_method_217_code
def yX12_nextOrder : MethodName := ⟨RX12, "nextOrder", "(I)Z"⟩
abbrev cX12_tour : ByteArray := prog_14_method_218_code
def yX12_tour : MethodName := ⟨RX12, "tour", "(II)I"⟩
def RJ11 : String := "java/lang/Character"
def TJ11 : u_T := fun k => match k with
  | _ => ("", "", "", false)
def tyJ11 : Nat → FieldType := fun k => match k with
  | _ => .int
abbrev wsJ110 : List Cond := u_ws RJ11 TJ11 0
theorem nmJ11 : ∀ a, a < 0 → ∀ b, b < 0 → a ≠ b → (TJ11 a).2.1 ≠ (TJ11 b).2.1 := by decide +kernel
theorem tyJ11_ok : ∀ k, k < 0 → parseFieldDescriptor (TJ11 k).2.2.1 = some (tyJ11 k) := by decide +kernel
abbrev cJ11_isValidCodePoint_9a6ad : ByteArray := prog_15_method_11_code
def yJ11_isValidCodePoint_9a6ad : MethodName := ⟨RJ11, "isValidCodePoint", "(I)Z"⟩
abbrev cJ11_highSurrogate_5068e : ByteArray := prog_15_method_28_code
def yJ11_highSurrogate_5068e : MethodName := ⟨RJ11, "highSurrogate", "(I)C"⟩
abbrev cJ11_lowSurrogate_5068e : ByteArray := prog_15_method_29_code
def yJ11_lowSurrogate_5068e : MethodName := ⟨RJ11, "lowSurrogate", "(I)C"⟩
def RJx8e188 : String := "java/lang/Cloneable"
def TJx8e188 : u_T := fun k => match k with
  | _ => ("", "", "", false)
def tyJx8e188 : Nat → FieldType := fun k => match k with
  | _ => .int
abbrev wsJx8e1880 : List Cond := u_ws RJx8e188 TJx8e188 0
theorem nmJx8e188 : ∀ a, a < 0 → ∀ b, b < 0 → a ≠ b → (TJx8e188 a).2.1 ≠ (TJx8e188 b).2.1 := by decide +kernel
theorem tyJx8e188_ok : ∀ k, k < 0 → parseFieldDescriptor (TJx8e188 k).2.2.1 = some (tyJx8e188 k) := by decide +kernel
def RJ6 : String := "java/lang/Integer"
def TJ6 : u_T := fun k => match k with
  | _ => ("", "", "", false)
def tyJ6 : Nat → FieldType := fun k => match k with
  | _ => .int
abbrev wsJ60 : List Cond := u_ws RJ6 TJ6 0
theorem nmJ6 : ∀ a, a < 0 → ∀ b, b < 0 → a ≠ b → (TJ6 a).2.1 ≠ (TJ6 b).2.1 := by decide +kernel
theorem tyJ6_ok : ∀ k, k < 0 → parseFieldDescriptor (TJ6 k).2.2.1 = some (tyJ6 k) := by decide +kernel
abbrev cJ6_bitCount_0f7a4 : ByteArray := prog_21_method_49_code
def yJ6_bitCount_0f7a4 : MethodName := ⟨RJ6, "bitCount", "(I)I"⟩
def RJ13 : String := "java/lang/Long"
def TJ13 : u_T := fun k => match k with
  | _ => ("", "", "", false)
def tyJ13 : Nat → FieldType := fun k => match k with
  | _ => .int
abbrev wsJ130 : List Cond := u_ws RJ13 TJ13 0
theorem nmJ13 : ∀ a, a < 0 → ∀ b, b < 0 → a ≠ b → (TJ13 a).2.1 ≠ (TJ13 b).2.1 := by decide +kernel
theorem tyJ13_ok : ∀ k, k < 0 → parseFieldDescriptor (TJ13 k).2.2.1 = some (tyJ13 k) := by decide +kernel
abbrev cJ13_compare_74951 : ByteArray := prog_22_method_42_code
def yJ13_compare_74951 : MethodName := ⟨RJ13, "compare", "(JJ)I"⟩
def RJ9 : String := "java/lang/Math"
def TJ9 : u_T := fun k => match k with
  | _ => ("", "", "", false)
def tyJ9 : Nat → FieldType := fun k => match k with
  | _ => .int
abbrev wsJ90 : List Cond := u_ws RJ9 TJ9 0
theorem nmJ9 : ∀ a, a < 0 → ∀ b, b < 0 → a ≠ b → (TJ9 a).2.1 ≠ (TJ9 b).2.1 := by decide +kernel
theorem tyJ9_ok : ∀ k, k < 0 → parseFieldDescriptor (TJ9 k).2.2.1 = some (tyJ9 k) := by decide +kernel
abbrev cJ9_abs_067f4 : ByteArray := prog_23_method_61_code
def yJ9_abs_067f4 : MethodName := ⟨RJ9, "abs", "(J)J"⟩
abbrev cJ9_max_7cf53 : ByteArray := prog_23_method_65_code
def yJ9_max_7cf53 : MethodName := ⟨RJ9, "max", "(II)I"⟩
abbrev cJ9_min_7cf53 : ByteArray := prog_23_method_69_code
def yJ9_min_7cf53 : MethodName := ⟨RJ9, "min", "(II)I"⟩
def RJ0 : String := "java/lang/String"
def TJ0 : u_T := fun k => match k with
  | _ => ("", "", "", false)
def tyJ0 : Nat → FieldType := fun k => match k with
  | _ => .int
abbrev wsJ00 : List Cond := u_ws RJ0 TJ0 0
theorem nmJ0 : ∀ a, a < 0 → ∀ b, b < 0 → a ≠ b → (TJ0 a).2.1 ≠ (TJ0 b).2.1 := by decide +kernel
theorem tyJ0_ok : ∀ k, k < 0 → parseFieldDescriptor (TJ0 k).2.2.1 = some (tyJ0 k) := by decide +kernel
abbrev cJ0_length_8abf5 : ByteArray := prog_25_method_54_code
def yJ0_length_8abf5 : MethodName := ⟨RJ0, "length", "()I"⟩
abbrev cJ0_charAt_5068e : ByteArray := prog_25_method_56_code
def yJ0_charAt_5068e : MethodName := ⟨RJ0, "charAt", "(I)C"⟩
abbrev cJ0_indexOf_0f7a4 : ByteArray := prog_25_method_79_code
def yJ0_indexOf_0f7a4 : MethodName := ⟨RJ0, "indexOf", "(I)I"⟩
abbrev cJ0_indexOf_7cf53 : ByteArray := prog_25_method_80_code
def yJ0_indexOf_7cf53 : MethodName := ⟨RJ0, "indexOf", "(II)I"⟩
abbrev cJ0_coder_7d493 : ByteArray := prog_25_method_152_code
def yJ0_coder_7d493 : MethodName := ⟨RJ0, "coder", "()B"⟩
abbrev cJ0_isLatin1_aae02 : ByteArray := prog_25_method_154_code
def yJ0_isLatin1_aae02 : MethodName := ⟨RJ0, "isLatin1", "()Z"⟩
abbrev cJ0_checkIndex_df160 : ByteArray := prog_25_method_155_code
def yJ0_checkIndex_df160 : MethodName := ⟨RJ0, "checkIndex", "(II)V"⟩
abbrev cJ0_checkBoundsBeginEnd_23922 : ByteArray := prog_25_method_158_code
def yJ0_checkBoundsBeginEnd_23922 : MethodName := ⟨RJ0, "checkBoundsBeginEnd", "(III)V"⟩
def RJ1 : String := "java/lang/StringLatin1"
def TJ1 : u_T := fun k => match k with
  | _ => ("", "", "", false)
def tyJ1 : Nat → FieldType := fun k => match k with
  | _ => .int
abbrev wsJ10 : List Cond := u_ws RJ1 TJ1 0
theorem nmJ1 : ∀ a, a < 0 → ∀ b, b < 0 → a ≠ b → (TJ1 a).2.1 ≠ (TJ1 b).2.1 := by decide +kernel
theorem tyJ1_ok : ∀ k, k < 0 → parseFieldDescriptor (TJ1 k).2.2.1 = some (tyJ1 k) := by decide +kernel
abbrev cJ1_charAt_3b067 : ByteArray := prog_26_method_2_code
def yJ1_charAt_3b067 : MethodName := ⟨RJ1, "charAt", "([BI)C"⟩
abbrev cJ1_canEncode_9a6ad : ByteArray := prog_26_method_4_code
def yJ1_canEncode_9a6ad : MethodName := ⟨RJ1, "canEncode", "(I)Z"⟩
abbrev cJ1_indexOf_4cfef : ByteArray := prog_26_method_22_code
def yJ1_indexOf_4cfef : MethodName := ⟨RJ1, "indexOf", "([BIII)I"⟩
abbrev cJ1_indexOfChar_4cfef : ByteArray := prog_26_method_23_code
def yJ1_indexOfChar_4cfef : MethodName := ⟨RJ1, "indexOfChar", "([BIII)I"⟩
def RJ2 : String := "java/lang/StringUTF16"
def TJ2 : u_T := fun k => match k with
  | _ => ("", "", "", false)
def tyJ2 : Nat → FieldType := fun k => match k with
  | _ => .int
abbrev wsJ20 : List Cond := u_ws RJ2 TJ2 0
theorem nmJ2 : ∀ a, a < 0 → ∀ b, b < 0 → a ≠ b → (TJ2 a).2.1 ≠ (TJ2 b).2.1 := by decide +kernel
theorem tyJ2_ok : ∀ k, k < 0 → parseFieldDescriptor (TJ2 k).2.2.1 = some (tyJ2 k) := by decide +kernel
abbrev cJ2_getChar_3b067 : ByteArray := prog_27_method_5_code
def yJ2_getChar_3b067 : MethodName := ⟨RJ2, "getChar", "([BI)C"⟩
abbrev cJ2_length_9d52b : ByteArray := prog_27_method_6_code
def yJ2_length_9d52b : MethodName := ⟨RJ2, "length", "([B)I"⟩
abbrev cJ2_indexOf_4cfef : ByteArray := prog_27_method_40_code
def yJ2_indexOf_4cfef : MethodName := ⟨RJ2, "indexOf", "([BIII)I"⟩
abbrev cJ2_indexOfChar_4cfef : ByteArray := prog_27_method_47_code
def yJ2_indexOfChar_4cfef : MethodName := ⟨RJ2, "indexOfChar", "([BIII)I"⟩
abbrev cJ2_indexOfCharUnsafe_4cfef : ByteArray := prog_27_method_48_code
def yJ2_indexOfCharUnsafe_4cfef : MethodName := ⟨RJ2, "indexOfCharUnsafe", "([BIII)I"⟩
abbrev cJ2_indexOfSupplementary_4cfef : ByteArray := prog_27_method_49_code
def yJ2_indexOfSupplementary_4cfef : MethodName := ⟨RJ2, "indexOfSupplementary", "([BIII)I"⟩
abbrev cJ2_charAt_3b067 : ByteArray := prog_27_method_83_code
def yJ2_charAt_3b067 : MethodName := ⟨RJ2, "charAt", "([BI)C"⟩
abbrev cJ2_checkIndex_2214a : ByteArray := prog_27_method_91_code
def yJ2_checkIndex_2214a : MethodName := ⟨RJ2, "checkIndex", "(I[B)V"⟩
abbrev cJ2_checkBoundsBeginEnd_d044e : ByteArray := prog_27_method_93_code
def yJ2_checkBoundsBeginEnd_d044e : MethodName := ⟨RJ2, "checkBoundsBeginEnd", "(II[B)V"⟩
def RJ10 : String := "java/lang/System"
def TJ10 : u_T := fun k => match k with
  | _ => ("", "", "", false)
def tyJ10 : Nat → FieldType := fun k => match k with
  | _ => .int
abbrev wsJ100 : List Cond := u_ws RJ10 TJ10 0
theorem nmJ10 : ∀ a, a < 0 → ∀ b, b < 0 → a ≠ b → (TJ10 a).2.1 ≠ (TJ10 b).2.1 := by decide +kernel
theorem tyJ10_ok : ∀ k, k < 0 → parseFieldDescriptor (TJ10 k).2.2.1 = some (tyJ10 k) := by decide +kernel
def RJ7 : String := "java/util/Arrays"
def TJ7 : u_T := fun k => match k with
  | _ => ("", "", "", false)
def tyJ7 : Nat → FieldType := fun k => match k with
  | _ => .int
abbrev wsJ70 : List Cond := u_ws RJ7 TJ7 0
theorem nmJ7 : ∀ a, a < 0 → ∀ b, b < 0 → a ≠ b → (TJ7 a).2.1 ≠ (TJ7 b).2.1 := by decide +kernel
theorem tyJ7_ok : ∀ k, k < 0 → parseFieldDescriptor (TJ7 k).2.2.1 = some (tyJ7 k) := by decide +kernel
abbrev cJ7_fill_d0a16 : ByteArray := prog_30_method_101_code
def yJ7_fill_d0a16 : MethodName := ⟨RJ7, "fill", "([JJ)V"⟩
abbrev cJ7_fill_53178 : ByteArray := prog_30_method_103_code
def yJ7_fill_53178 : MethodName := ⟨RJ7, "fill", "([II)V"⟩
abbrev cJ7_copyOf_9075b : ByteArray := prog_30_method_121_code
def yJ7_copyOf_9075b : MethodName := ⟨RJ7, "copyOf", "([BI)[B"⟩
abbrev cJ7_copyOf_c38d5 : ByteArray := prog_30_method_124_code
def yJ7_copyOf_c38d5 : MethodName := ⟨RJ7, "copyOf", "([JI)[J"⟩
def RJ3 : String := "jdk/internal/util/Preconditions"
def TJ3 : u_T := fun k => match k with
  | _ => ("", "", "", false)
def tyJ3 : Nat → FieldType := fun k => match k with
  | _ => .int
abbrev wsJ30 : List Cond := u_ws RJ3 TJ3 0
theorem nmJ3 : ∀ a, a < 0 → ∀ b, b < 0 → a ≠ b → (TJ3 a).2.1 ≠ (TJ3 b).2.1 := by decide +kernel
theorem tyJ3_ok : ∀ k, k < 0 → parseFieldDescriptor (TJ3 k).2.2.1 = some (tyJ3 k) := by decide +kernel
abbrev cJ3_checkIndex_8e157 : ByteArray := prog_31_method_11_code
def yJ3_checkIndex_8e157 : MethodName := ⟨RJ3, "checkIndex", "(IILjava/util/function/BiFunction;)I"⟩
abbrev cJ3_checkFromToIndex_8c36e : ByteArray := prog_31_method_12_code
def yJ3_checkFromToIndex_8c36e : MethodName := ⟨RJ3, "checkFromToIndex", "(IIILjava/util/function/BiFunction;)I"⟩
def RL : String := "OptimaWorksLaw"
abbrev cL_read : ByteArray := method_3_code
def yL_read : MethodName := ⟨RL, "read", "(LOptimaWorks;[J)I"⟩
abbrev cL_variable : ByteArray := method_4_code
def yL_variable : MethodName := ⟨RL, "variable", "(LOptimaWorks;II[J)I"⟩
abbrev cL_row : ByteArray := method_5_code
def yL_row : MethodName := ⟨RL, "row", "(LOptimaWorks;III[J)I"⟩
abbrev cL_goal : ByteArray := method_6_code
def yL_goal : MethodName := ⟨RL, "goal", "(LOptimaWorks;IIZ[J)I"⟩
abbrev cL_write : ByteArray := method_7_code
def yL_write : MethodName := ⟨RL, "write", "(LOptimaWorks;[J)I"⟩
abbrev cL_solve : ByteArray := method_8_code
def yL_solve : MethodName := ⟨RL, "solve", "(LOptimaWorks;Z[J)I"⟩
abbrev cL_value : ByteArray := method_9_code
def yL_value : MethodName := ⟨RL, "value", "(LOptimaWorks;I[J)I"⟩
abbrev cL_best : ByteArray := method_10_code
def yL_best : MethodName := ⟨RL, "best", "(LOptimaWorks;I[J)I"⟩
abbrev cL_way : ByteArray := method_11_code
def yL_way : MethodName := ⟨RL, "way", "(LOptimaWorks;I[J)I"⟩
abbrev cL_count : ByteArray := method_12_code
def yL_count : MethodName := ⟨RL, "count", "(LOptimaWorks;[J)I"⟩
abbrev cL_counted : ByteArray := method_13_code
def yL_counted : MethodName := ⟨RL, "counted", "(LOptimaWorks;II[J)I"⟩
abbrev cL_prove : ByteArray := method_14_code
def yL_prove : MethodName := ⟨RL, "prove", "(LOptimaWorks;[J)I"⟩
abbrev cL_multiplier : ByteArray := method_15_code
def yL_multiplier : MethodName := ⟨RL, "multiplier", "(LOptimaWorks;I[J)I"⟩
abbrev cL_holder : ByteArray := method_16_code
def yL_holder : MethodName := ⟨RL, "holder", "(LOptimaWorks;I[J)I"⟩
abbrev cL_rule : ByteArray := method_17_code
def yL_rule : MethodName := ⟨RL, "rule", "(LOptimaWorks;IIII[J)I"⟩
abbrev cL_clause : ByteArray := method_18_code
def yL_clause : MethodName := ⟨RL, "clause", "(LOptimaWorks;III[J)I"⟩
abbrev cL_arc : ByteArray := method_19_code
def yL_arc : MethodName := ⟨RL, "arc", "(LOptimaWorks;IIII[J)I"⟩
abbrev cL_greatest : ByteArray := method_20_code
def yL_greatest : MethodName := ⟨RL, "greatest", "(LOptimaWorks;II[J)I"⟩
abbrev cL_cut : ByteArray := method_21_code
def yL_cut : MethodName := ⟨RL, "cut", "(LOptimaWorks;II[J)I"⟩
abbrev cL_cheapest : ByteArray := method_22_code
def yL_cheapest : MethodName := ⟨RL, "cheapest", "(LOptimaWorks;III[J)I"⟩
abbrev cL_path : ByteArray := method_23_code
def yL_path : MethodName := ⟨RL, "path", "(LOptimaWorks;III[J)I"⟩
abbrev cL_tour : ByteArray := method_24_code
def yL_tour : MethodName := ⟨RL, "tour", "(LOptimaWorks;II[J)I"⟩
abbrev cL_law : ByteArray := code
def yL_law : MethodName := ⟨RL, "law", "([I)Z"⟩
abbrev vwCl : List vw_C := [(RX0, TX0, 7), (RX1, TX1, 17), (RX2, TX2, 14), (RX3, TX3, 17), (RX4, TX4, 11), (RX5, TX5, 19), (RX6, TX6, 13), (RX7, TX7, 20), (RX8, TX8, 3), (RX9, TX9, 9), (RX10, TX10, 20), (RX11, TX11, 11), (RX12, TX12, 163)]
end
section
def wsX0_init : List Cond := .code yX0_init cX0_init 1 none :: ([.methodLink RX0 3 objectInit, .instanceMethod objectInit, .code objectInit ⟨#[0xb1]⟩ 1 none, .arrayClass .int, .fieldLink RX0 11 "OptimaWorks$ClauseDesk" "wants" "[I", .fieldLink RX0 15 "OptimaWorks$ClauseDesk" "wantsNot" "[I", .fieldLink RX0 18 "OptimaWorks$ClauseDesk" "weight" "[I", .fieldLink RX0 21 "OptimaWorks$ClauseDesk" "broken" "[I", .fieldLink RX0 24 "OptimaWorks$ClauseDesk" "loss" "[I"] ++ wsX00)
def wX0 (a : Nat → Nat) (k : Nat → ClassId) (h0 : Nat) : va_W := [(h0, .inr (0, [.int 0, .ref (a 0), .ref (a 1), .ref (a 2), .ref (a 3), .ref (a 4), .int 0])), ((a 0), .inl ((k 0), 24, .inl (fun _ => 0))), ((a 1), .inl ((k 1), 24, .inl (fun _ => 0))), ((a 2), .inl ((k 2), 24, .inl (fun _ => 0))), ((a 3), .inl ((k 3), 4096, .inl (fun _ => 0))), ((a 4), .inl ((k 4), 4096, .inl (fun _ => 0)))]
def tX0 (k : Nat → ClassId) : List (ClassId × FieldType) := [((k 0), .int), ((k 1), .int), ((k 2), .int), ((k 3), .int), ((k 4), .int)]
theorem dX0_init_0 : decode cX0_init 0 = .ok (.aload_n 0, 1) := by decide +kernel
theorem dX0_init_1 : decode cX0_init 1 = .ok (.invokespecial 3, 3) := by decide +kernel
theorem dX0_init_4 : decode cX0_init 4 = .ok (.aload_n 0, 1) := by decide +kernel
theorem dX0_init_5 : decode cX0_init 5 = .ok (.bipush 24, 2) := by decide +kernel
theorem dX0_init_7 : decode cX0_init 7 = .ok (.newarray .int, 2) := by decide +kernel
theorem dX0_init_9 : decode cX0_init 9 = .ok (.putfield 11, 3) := by decide +kernel
theorem dX0_init_12 : decode cX0_init 12 = .ok (.aload_n 0, 1) := by decide +kernel
theorem dX0_init_13 : decode cX0_init 13 = .ok (.bipush 24, 2) := by decide +kernel
theorem dX0_init_15 : decode cX0_init 15 = .ok (.newarray .int, 2) := by decide +kernel
theorem dX0_init_17 : decode cX0_init 17 = .ok (.putfield 15, 3) := by decide +kernel
theorem dX0_init_20 : decode cX0_init 20 = .ok (.aload_n 0, 1) := by decide +kernel
theorem dX0_init_21 : decode cX0_init 21 = .ok (.bipush 24, 2) := by decide +kernel
theorem dX0_init_23 : decode cX0_init 23 = .ok (.newarray .int, 2) := by decide +kernel
theorem dX0_init_25 : decode cX0_init 25 = .ok (.putfield 18, 3) := by decide +kernel
theorem dX0_init_28 : decode cX0_init 28 = .ok (.aload_n 0, 1) := by decide +kernel
theorem dX0_init_29 : decode cX0_init 29 = .ok (.sipush 4096, 3) := by decide +kernel
theorem dX0_init_32 : decode cX0_init 32 = .ok (.newarray .int, 2) := by decide +kernel
theorem dX0_init_34 : decode cX0_init 34 = .ok (.putfield 21, 3) := by decide +kernel
theorem dX0_init_37 : decode cX0_init 37 = .ok (.aload_n 0, 1) := by decide +kernel
theorem dX0_init_38 : decode cX0_init 38 = .ok (.sipush 4096, 3) := by decide +kernel
theorem dX0_init_41 : decode cX0_init 41 = .ok (.newarray .int, 2) := by decide +kernel
theorem dX0_init_43 : decode cX0_init 43 = .ok (.putfield 24, 3) := by decide +kernel
theorem dX0_init_46 : decode cX0_init 46 = .ok (.return_, 1) := by decide +kernel
theorem iX0_init_in0 : ∀ w ∈ wsX00, w ∈ wsX0_init := fun _ h => List.mem_cons_of_mem _ (List.mem_append_right _ h)
set_option maxHeartbeats 4000000 in
set_option maxRecDepth 100000 in
/-- ClauseDesk(): five rows of ints come -/
theorem c_X0_init (l : Launch) (dC : Nat → ClassId) (dI : Nat → Nat → Nat) (h0 : Nat) (sz : Nat) : Met l yX0_init wsX0_init ({ frames := 1, cells := 5, slots := 8264, locals := 12 }) (va_Pc [.ref h0] (fun U => U.heap.size = sz ∧ va_P (dC, dI) vwCl [(h0, .inr (0, [.int 0, .null, .null, .null, .null, .null, .int 0]))] U.heap ∧ va_K (dC, dI) vwCl [] U ∧ va_D (fun _ => True) [(h0, .inr (0, [.int 0, .null, .null, .null, .null, .null, .int 0]))])) (va_Qv (fun _ : (Nat → Nat) × (Nat → ClassId) => True) (fun u t => va_P (dC, dI) vwCl (wX0 u.1 u.2 h0) t.heap ∧ va_K (dC, dI) vwCl (tX0 u.2) t ∧ va_D (va_A [(h0, .inr (0, [.int 0, .null, .null, .null, .null, .null, .int 0]))] sz) (wX0 u.1 u.2 h0)) (va_A [(h0, .inr (0, [.int 0, .null, .null, .null, .null, .null, .int 0]))] sz)) 5 8264 (va_A [(h0, .inr (0, [.int 0, .null, .null, .null, .null, .null, .int 0]))] sz) := by
  refine Met.ofW (cc := cX0_init) (maxL := 1) (ret := none) (by decide) rfl ?_
  intro p e s m args below meth c s₁ B hml hv
  obtain ⟨rfl, hsz, hP, hK, hD0⟩ := hv
  have hx := B.exec
  have hb := B.bytes
  have hr := B.returns
  have hts := atoms_spec (ws := wsX0_init) B.pre
  have hown : s.vm.findClass RX0 = some m.cls := findClass_of_methodNamed B.named
  have hlocks := B.notSynchronized
  have hin : meth.name = "<init>" := (name_of_methodNamed B.named B.method).1
  subst hsz
  have hD := hD0.self (sz := s.heap.size)
  generalize hAe : va_A [(h0, .inr (0, [.int 0, .null, .null, .null, .null, .null, .int 0]))] s.heap.size = A at hD ⊢
  have hA : ∀ q : Nat, s.heap.size ≤ q → A q := fun q h => by rw [← hAe]; exact Or.inr h
  have hS : va_S A s.heap s.heap [] := va_S.rf
  have hP : va_P (dC, dI) vwCl [(h0, .inr (0, [.int 0, .null, .null, .null, .null, .null, .int 0]))] s.heap := hP
  have hl := lv_entry ([.ref h0]) (n := 1) (Nat.le_of_ble_eq_true rfl)
  rw [lg_entry_eq]
  generalize (lg_sl ([.ref h0]) ++ List.replicate (1 - (lg_sl ([.ref h0])).length) Slot.unset).toArray = ls at hl ⊢
  have hl : lv_has ls 1 [(0, .ref h0)] := hl
  refine lv_aload_n hx hb dX0_init_0 rfl (lv_at hl 0 rfl) ?_
  refine W.objInit hx hb hown (hts (.methodLink RX0 3 objectInit) (by decide +kernel)) (hts (.instanceMethod objectInit) (by decide +kernel)) (hts (.code objectInit ⟨#[0xb1]⟩ 1 none) (by decide +kernel)) rfl (by rw [hml]; exact hl.1) rfl dX0_init_1 (by decide +kernel) (Nat.le_of_ble_eq_true rfl) ?_
  refine W.eq (g2 := F0 m 4 ls []) rfl ?_
  refine lv_aload_n hx hb dX0_init_4 rfl (lv_at hl 0 rfl) ?_
  refine lv_bipush (v := 24) hx hb dX0_init_5 (by decide) ?_
  refine va_newa (atype := .int) (ty := .int) (N' := 24) (a0 := (24, .inl (fun _ => 0))) hx hb (hts (.arrayClass .int) (by decide +kernel)) rfl hK hP hD hS hA (fun _ => rfl) (by decide) (by decide) (by decide +kernel) (by decide +kernel) (by decide +kernel) dX0_init_7 (fun q7 k7 H hK hP hD hS => ?_)
  have hP : va_P (dC, dI) vwCl [(h0, .inr (0, [.int 0, .null, .null, .null, .null, .null, .int 0])), (q7, .inl (k7, 24, .inl (fun _ => 0)))] H := hP
  have hD : va_D A [(h0, .inr (0, [.int 0, .null, .null, .null, .null, .null, .int 0])), (q7, .inl (k7, 24, .inl (fun _ => 0)))] := hD
  have hK : va_K (dC, dI) vwCl [(k7, .int)] s := hK
  refine W.widen (k := 1) (n := 24) (by decide +kernel) (by decide +kernel) ?_
  refine va_putF (D := (dC, dI)) (ci := 0) (v := .ref q7) (ty := .array .int) (C := RX0) (T := TX0) (N := 7) hx hb hts iX0_init_in0 tyX0 tyX0_ok nmX0 hown hK hP hD hS 0 rfl rfl 1 (by decide) (hts (.fieldLink RX0 11 "OptimaWorks$ClauseDesk" "wants" "[I") (by decide +kernel)) (fun _ h9 => h9) rfl hin rfl (by decide +kernel) rfl rfl (Nat.le_of_ble_eq_true rfl) dX0_init_9 (fun H locs hP hD hS => ?_)
  have hP : va_P (dC, dI) vwCl [(h0, .inr (0, [.int 0, .ref q7, .null, .null, .null, .null, .int 0])), (q7, .inl (k7, 24, .inl (fun _ => 0)))] H := hP
  have hD : va_D A [(h0, .inr (0, [.int 0, .ref q7, .null, .null, .null, .null, .int 0])), (q7, .inl (k7, 24, .inl (fun _ => 0)))] := hD
  refine lv_aload_n hx hb dX0_init_12 rfl (lv_at hl 0 rfl) ?_
  refine lv_bipush (v := 24) hx hb dX0_init_13 (by decide) ?_
  refine va_newa (atype := .int) (ty := .int) (N' := 24) (a0 := (24, .inl (fun _ => 0))) hx hb (hts (.arrayClass .int) (by decide +kernel)) rfl hK hP hD hS hA (fun _ => rfl) (by decide) (by decide) (by decide +kernel) (by decide +kernel) (by decide +kernel) dX0_init_15 (fun q15 k15 H hK hP hD hS => ?_)
  have hP : va_P (dC, dI) vwCl [(h0, .inr (0, [.int 0, .ref q7, .null, .null, .null, .null, .int 0])), (q7, .inl (k7, 24, .inl (fun _ => 0))), (q15, .inl (k15, 24, .inl (fun _ => 0)))] H := hP
  have hD : va_D A [(h0, .inr (0, [.int 0, .ref q7, .null, .null, .null, .null, .int 0])), (q7, .inl (k7, 24, .inl (fun _ => 0))), (q15, .inl (k15, 24, .inl (fun _ => 0)))] := hD
  have hK : va_K (dC, dI) vwCl [(k7, .int), (k15, .int)] s := hK
  refine W.widen (k := 2) (n := 48) (by decide +kernel) (by decide +kernel) ?_
  refine va_putF (D := (dC, dI)) (ci := 0) (v := .ref q15) (ty := .array .int) (C := RX0) (T := TX0) (N := 7) hx hb hts iX0_init_in0 tyX0 tyX0_ok nmX0 hown hK hP hD hS 0 rfl rfl 2 (by decide) (hts (.fieldLink RX0 15 "OptimaWorks$ClauseDesk" "wantsNot" "[I") (by decide +kernel)) (fun _ h9 => h9) rfl hin rfl (by decide +kernel) rfl rfl (Nat.le_of_ble_eq_true rfl) dX0_init_17 (fun H locs hP hD hS => ?_)
  have hP : va_P (dC, dI) vwCl [(h0, .inr (0, [.int 0, .ref q7, .ref q15, .null, .null, .null, .int 0])), (q7, .inl (k7, 24, .inl (fun _ => 0))), (q15, .inl (k15, 24, .inl (fun _ => 0)))] H := hP
  have hD : va_D A [(h0, .inr (0, [.int 0, .ref q7, .ref q15, .null, .null, .null, .int 0])), (q7, .inl (k7, 24, .inl (fun _ => 0))), (q15, .inl (k15, 24, .inl (fun _ => 0)))] := hD
  refine lv_aload_n hx hb dX0_init_20 rfl (lv_at hl 0 rfl) ?_
  refine lv_bipush (v := 24) hx hb dX0_init_21 (by decide) ?_
  refine va_newa (atype := .int) (ty := .int) (N' := 24) (a0 := (24, .inl (fun _ => 0))) hx hb (hts (.arrayClass .int) (by decide +kernel)) rfl hK hP hD hS hA (fun _ => rfl) (by decide) (by decide) (by decide +kernel) (by decide +kernel) (by decide +kernel) dX0_init_23 (fun q23 k23 H hK hP hD hS => ?_)
  have hP : va_P (dC, dI) vwCl [(h0, .inr (0, [.int 0, .ref q7, .ref q15, .null, .null, .null, .int 0])), (q7, .inl (k7, 24, .inl (fun _ => 0))), (q15, .inl (k15, 24, .inl (fun _ => 0))), (q23, .inl (k23, 24, .inl (fun _ => 0)))] H := hP
  have hD : va_D A [(h0, .inr (0, [.int 0, .ref q7, .ref q15, .null, .null, .null, .int 0])), (q7, .inl (k7, 24, .inl (fun _ => 0))), (q15, .inl (k15, 24, .inl (fun _ => 0))), (q23, .inl (k23, 24, .inl (fun _ => 0)))] := hD
  have hK : va_K (dC, dI) vwCl [(k7, .int), (k15, .int), (k23, .int)] s := hK
  refine W.widen (k := 3) (n := 72) (by decide +kernel) (by decide +kernel) ?_
  refine va_putF (D := (dC, dI)) (ci := 0) (v := .ref q23) (ty := .array .int) (C := RX0) (T := TX0) (N := 7) hx hb hts iX0_init_in0 tyX0 tyX0_ok nmX0 hown hK hP hD hS 0 rfl rfl 3 (by decide) (hts (.fieldLink RX0 18 "OptimaWorks$ClauseDesk" "weight" "[I") (by decide +kernel)) (fun _ h9 => h9) rfl hin rfl (by decide +kernel) rfl rfl (Nat.le_of_ble_eq_true rfl) dX0_init_25 (fun H locs hP hD hS => ?_)
  have hP : va_P (dC, dI) vwCl [(h0, .inr (0, [.int 0, .ref q7, .ref q15, .ref q23, .null, .null, .int 0])), (q7, .inl (k7, 24, .inl (fun _ => 0))), (q15, .inl (k15, 24, .inl (fun _ => 0))), (q23, .inl (k23, 24, .inl (fun _ => 0)))] H := hP
  have hD : va_D A [(h0, .inr (0, [.int 0, .ref q7, .ref q15, .ref q23, .null, .null, .int 0])), (q7, .inl (k7, 24, .inl (fun _ => 0))), (q15, .inl (k15, 24, .inl (fun _ => 0))), (q23, .inl (k23, 24, .inl (fun _ => 0)))] := hD
  refine lv_aload_n hx hb dX0_init_28 rfl (lv_at hl 0 rfl) ?_
  refine lv_sipush (v := 4096) hx hb dX0_init_29 (by decide) ?_
  refine va_newa (atype := .int) (ty := .int) (N' := 4096) (a0 := (4096, .inl (fun _ => 0))) hx hb (hts (.arrayClass .int) (by decide +kernel)) rfl hK hP hD hS hA (fun _ => rfl) (by decide) (by decide) (by decide +kernel) (by decide +kernel) (by decide +kernel) dX0_init_32 (fun q32 k32 H hK hP hD hS => ?_)
  have hP : va_P (dC, dI) vwCl [(h0, .inr (0, [.int 0, .ref q7, .ref q15, .ref q23, .null, .null, .int 0])), (q7, .inl (k7, 24, .inl (fun _ => 0))), (q15, .inl (k15, 24, .inl (fun _ => 0))), (q23, .inl (k23, 24, .inl (fun _ => 0))), (q32, .inl (k32, 4096, .inl (fun _ => 0)))] H := hP
  have hD : va_D A [(h0, .inr (0, [.int 0, .ref q7, .ref q15, .ref q23, .null, .null, .int 0])), (q7, .inl (k7, 24, .inl (fun _ => 0))), (q15, .inl (k15, 24, .inl (fun _ => 0))), (q23, .inl (k23, 24, .inl (fun _ => 0))), (q32, .inl (k32, 4096, .inl (fun _ => 0)))] := hD
  have hK : va_K (dC, dI) vwCl [(k7, .int), (k15, .int), (k23, .int), (k32, .int)] s := hK
  refine W.widen (k := 4) (n := 4168) (by decide +kernel) (by decide +kernel) ?_
  refine va_putF (D := (dC, dI)) (ci := 0) (v := .ref q32) (ty := .array .int) (C := RX0) (T := TX0) (N := 7) hx hb hts iX0_init_in0 tyX0 tyX0_ok nmX0 hown hK hP hD hS 0 rfl rfl 4 (by decide) (hts (.fieldLink RX0 21 "OptimaWorks$ClauseDesk" "broken" "[I") (by decide +kernel)) (fun _ h9 => h9) rfl hin rfl (by decide +kernel) rfl rfl (Nat.le_of_ble_eq_true rfl) dX0_init_34 (fun H locs hP hD hS => ?_)
  have hP : va_P (dC, dI) vwCl [(h0, .inr (0, [.int 0, .ref q7, .ref q15, .ref q23, .ref q32, .null, .int 0])), (q7, .inl (k7, 24, .inl (fun _ => 0))), (q15, .inl (k15, 24, .inl (fun _ => 0))), (q23, .inl (k23, 24, .inl (fun _ => 0))), (q32, .inl (k32, 4096, .inl (fun _ => 0)))] H := hP
  have hD : va_D A [(h0, .inr (0, [.int 0, .ref q7, .ref q15, .ref q23, .ref q32, .null, .int 0])), (q7, .inl (k7, 24, .inl (fun _ => 0))), (q15, .inl (k15, 24, .inl (fun _ => 0))), (q23, .inl (k23, 24, .inl (fun _ => 0))), (q32, .inl (k32, 4096, .inl (fun _ => 0)))] := hD
  refine lv_aload_n hx hb dX0_init_37 rfl (lv_at hl 0 rfl) ?_
  refine lv_sipush (v := 4096) hx hb dX0_init_38 (by decide) ?_
  refine va_newa (atype := .int) (ty := .int) (N' := 4096) (a0 := (4096, .inl (fun _ => 0))) hx hb (hts (.arrayClass .int) (by decide +kernel)) rfl hK hP hD hS hA (fun _ => rfl) (by decide) (by decide) (by decide +kernel) (by decide +kernel) (by decide +kernel) dX0_init_41 (fun q41 k41 H hK hP hD hS => ?_)
  have hP : va_P (dC, dI) vwCl [(h0, .inr (0, [.int 0, .ref q7, .ref q15, .ref q23, .ref q32, .null, .int 0])), (q7, .inl (k7, 24, .inl (fun _ => 0))), (q15, .inl (k15, 24, .inl (fun _ => 0))), (q23, .inl (k23, 24, .inl (fun _ => 0))), (q32, .inl (k32, 4096, .inl (fun _ => 0))), (q41, .inl (k41, 4096, .inl (fun _ => 0)))] H := hP
  have hD : va_D A [(h0, .inr (0, [.int 0, .ref q7, .ref q15, .ref q23, .ref q32, .null, .int 0])), (q7, .inl (k7, 24, .inl (fun _ => 0))), (q15, .inl (k15, 24, .inl (fun _ => 0))), (q23, .inl (k23, 24, .inl (fun _ => 0))), (q32, .inl (k32, 4096, .inl (fun _ => 0))), (q41, .inl (k41, 4096, .inl (fun _ => 0)))] := hD
  have hK : va_K (dC, dI) vwCl [(k7, .int), (k15, .int), (k23, .int), (k32, .int), (k41, .int)] s := hK
  refine W.widen (k := 5) (n := 8264) (by decide +kernel) (by decide +kernel) ?_
  refine va_putF (D := (dC, dI)) (ci := 0) (v := .ref q41) (ty := .array .int) (C := RX0) (T := TX0) (N := 7) hx hb hts iX0_init_in0 tyX0 tyX0_ok nmX0 hown hK hP hD hS 0 rfl rfl 5 (by decide) (hts (.fieldLink RX0 24 "OptimaWorks$ClauseDesk" "loss" "[I") (by decide +kernel)) (fun _ h9 => h9) rfl hin rfl (by decide +kernel) rfl rfl (Nat.le_of_ble_eq_true rfl) dX0_init_43 (fun H locs hP hD hS => ?_)
  have hP : va_P (dC, dI) vwCl [(h0, .inr (0, [.int 0, .ref q7, .ref q15, .ref q23, .ref q32, .ref q41, .int 0])), (q7, .inl (k7, 24, .inl (fun _ => 0))), (q15, .inl (k15, 24, .inl (fun _ => 0))), (q23, .inl (k23, 24, .inl (fun _ => 0))), (q32, .inl (k32, 4096, .inl (fun _ => 0))), (q41, .inl (k41, 4096, .inl (fun _ => 0)))] H := hP
  have hD : va_D A [(h0, .inr (0, [.int 0, .ref q7, .ref q15, .ref q23, .ref q32, .ref q41, .int 0])), (q7, .inl (k7, 24, .inl (fun _ => 0))), (q15, .inl (k15, 24, .inl (fun _ => 0))), (q23, .inl (k23, 24, .inl (fun _ => 0))), (q32, .inl (k32, 4096, .inl (fun _ => 0))), (q41, .inl (k41, 4096, .inl (fun _ => 0)))] := hD
  refine W.widen (k := 5) (n := 8264) (by decide +kernel) (by decide +kernel) ?_
  exact W.vret hx hb hr (fun t ht hW => ⟨⟨((fun n => [q7, q15, q23, q32, q41].getD n 0), (fun n => [k7, k15, k23, k32, k41].getD n k7)), rfl, trivial, by rw [ht]; exact hP, va_K.moved hW.alike hK, hD⟩, hS.F ht⟩) hS.2.2 dX0_init_46
def wsX9_init : List Cond := .code yX9_init cX9_init 1 none :: ([.methodLink RX9 3 objectInit, .instanceMethod objectInit, .code objectInit ⟨#[0xb1]⟩ 1 none, .arrayClass .byte, .fieldLink RX9 9 "OptimaWorks$Words" "tape" "[B", .fieldLink RX9 15 "OptimaWorks$Words" "place" "I"] ++ wsX90)
def wX9 (a : Nat → Nat) (k : Nat → ClassId) (h0 : Nat) : va_W := [(h0, .inr (9, [.ref (a 0), .int 0, .int 0, .int (-1), .int 0, .int 0, .int 0, .long 0, .int 0])), ((a 0), .inl ((k 0), 64, .inl (fun _ => 0)))]
def tX9 (k : Nat → ClassId) : List (ClassId × FieldType) := [((k 0), .byte)]
theorem dX9_init_0 : decode cX9_init 0 = .ok (.aload_n 0, 1) := by decide +kernel
theorem dX9_init_1 : decode cX9_init 1 = .ok (.invokespecial 3, 3) := by decide +kernel
theorem dX9_init_4 : decode cX9_init 4 = .ok (.aload_n 0, 1) := by decide +kernel
theorem dX9_init_5 : decode cX9_init 5 = .ok (.bipush 64, 2) := by decide +kernel
theorem dX9_init_7 : decode cX9_init 7 = .ok (.newarray .byte, 2) := by decide +kernel
theorem dX9_init_9 : decode cX9_init 9 = .ok (.putfield 9, 3) := by decide +kernel
theorem dX9_init_12 : decode cX9_init 12 = .ok (.aload_n 0, 1) := by decide +kernel
theorem dX9_init_13 : decode cX9_init 13 = .ok (.iconst (-1), 1) := by decide +kernel
theorem dX9_init_14 : decode cX9_init 14 = .ok (.putfield 15, 3) := by decide +kernel
theorem dX9_init_17 : decode cX9_init 17 = .ok (.return_, 1) := by decide +kernel
theorem iX9_init_in9 : ∀ w ∈ wsX90, w ∈ wsX9_init := fun _ h => List.mem_cons_of_mem _ (List.mem_append_right _ h)
set_option maxHeartbeats 4000000 in
set_option maxRecDepth 100000 in
/-- Words(): the tape of 64 bytes; no place -/
theorem c_X9_init (l : Launch) (dC : Nat → ClassId) (dI : Nat → Nat → Nat) (h0 : Nat) (sz : Nat) : Met l yX9_init wsX9_init ({ frames := 1, cells := 1, slots := 64, locals := 12 }) (va_Pc [.ref h0] (fun U => U.heap.size = sz ∧ va_P (dC, dI) vwCl [(h0, .inr (9, [.null, .int 0, .int 0, .int 0, .int 0, .int 0, .int 0, .long 0, .int 0]))] U.heap ∧ va_K (dC, dI) vwCl [] U ∧ va_D (fun _ => True) [(h0, .inr (9, [.null, .int 0, .int 0, .int 0, .int 0, .int 0, .int 0, .long 0, .int 0]))])) (va_Qv (fun _ : (Nat → Nat) × (Nat → ClassId) => True) (fun u t => va_P (dC, dI) vwCl (wX9 u.1 u.2 h0) t.heap ∧ va_K (dC, dI) vwCl (tX9 u.2) t ∧ va_D (va_A [(h0, .inr (9, [.null, .int 0, .int 0, .int 0, .int 0, .int 0, .int 0, .long 0, .int 0]))] sz) (wX9 u.1 u.2 h0)) (va_A [(h0, .inr (9, [.null, .int 0, .int 0, .int 0, .int 0, .int 0, .int 0, .long 0, .int 0]))] sz)) 1 64 (va_A [(h0, .inr (9, [.null, .int 0, .int 0, .int 0, .int 0, .int 0, .int 0, .long 0, .int 0]))] sz) := by
  refine Met.ofW (cc := cX9_init) (maxL := 1) (ret := none) (by decide) rfl ?_
  intro p e s m args below meth c s₁ B hml hv
  obtain ⟨rfl, hsz, hP, hK, hD0⟩ := hv
  have hx := B.exec
  have hb := B.bytes
  have hr := B.returns
  have hts := atoms_spec (ws := wsX9_init) B.pre
  have hown : s.vm.findClass RX9 = some m.cls := findClass_of_methodNamed B.named
  have hlocks := B.notSynchronized
  have hin : meth.name = "<init>" := (name_of_methodNamed B.named B.method).1
  subst hsz
  have hD := hD0.self (sz := s.heap.size)
  generalize hAe : va_A [(h0, .inr (9, [.null, .int 0, .int 0, .int 0, .int 0, .int 0, .int 0, .long 0, .int 0]))] s.heap.size = A at hD ⊢
  have hA : ∀ q : Nat, s.heap.size ≤ q → A q := fun q h => by rw [← hAe]; exact Or.inr h
  have hS : va_S A s.heap s.heap [] := va_S.rf
  have hP : va_P (dC, dI) vwCl [(h0, .inr (9, [.null, .int 0, .int 0, .int 0, .int 0, .int 0, .int 0, .long 0, .int 0]))] s.heap := hP
  have hl := lv_entry ([.ref h0]) (n := 1) (Nat.le_of_ble_eq_true rfl)
  rw [lg_entry_eq]
  generalize (lg_sl ([.ref h0]) ++ List.replicate (1 - (lg_sl ([.ref h0])).length) Slot.unset).toArray = ls at hl ⊢
  have hl : lv_has ls 1 [(0, .ref h0)] := hl
  refine lv_aload_n hx hb dX9_init_0 rfl (lv_at hl 0 rfl) ?_
  refine W.objInit hx hb hown (hts (.methodLink RX9 3 objectInit) (by decide +kernel)) (hts (.instanceMethod objectInit) (by decide +kernel)) (hts (.code objectInit ⟨#[0xb1]⟩ 1 none) (by decide +kernel)) rfl (by rw [hml]; exact hl.1) rfl dX9_init_1 (by decide +kernel) (Nat.le_of_ble_eq_true rfl) ?_
  refine W.eq (g2 := F0 m 4 ls []) rfl ?_
  refine lv_aload_n hx hb dX9_init_4 rfl (lv_at hl 0 rfl) ?_
  refine lv_bipush (v := 64) hx hb dX9_init_5 (by decide) ?_
  refine va_newa (atype := .byte) (ty := .byte) (N' := 64) (a0 := (64, .inl (fun _ => 0))) hx hb (hts (.arrayClass .byte) (by decide +kernel)) rfl hK hP hD hS hA (fun _ => rfl) (by decide) (by decide) (by decide +kernel) (by decide +kernel) (by decide +kernel) dX9_init_7 (fun q7 k7 H hK hP hD hS => ?_)
  have hP : va_P (dC, dI) vwCl [(h0, .inr (9, [.null, .int 0, .int 0, .int 0, .int 0, .int 0, .int 0, .long 0, .int 0])), (q7, .inl (k7, 64, .inl (fun _ => 0)))] H := hP
  have hD : va_D A [(h0, .inr (9, [.null, .int 0, .int 0, .int 0, .int 0, .int 0, .int 0, .long 0, .int 0])), (q7, .inl (k7, 64, .inl (fun _ => 0)))] := hD
  have hK : va_K (dC, dI) vwCl [(k7, .byte)] s := hK
  refine W.widen (k := 1) (n := 64) (by decide +kernel) (by decide +kernel) ?_
  refine va_put (D := (dC, dI)) (ci := 9) (v := .ref q7) (ty := .array .byte) (C := RX9) (T := TX9) (N := 9) hx hb hts iX9_init_in9 tyX9 tyX9_ok nmX9 hown hK hP hD hS 0 rfl rfl 0 (by decide) (hts (.fieldLink RX9 9 "OptimaWorks$Words" "tape" "[B") (by decide +kernel)) (fun _ h9 => h9) rfl (by decide +kernel) rfl rfl (Nat.le_of_ble_eq_true rfl) dX9_init_9 (fun H locs hP hD hS => ?_)
  have hP : va_P (dC, dI) vwCl [(h0, .inr (9, [.ref q7, .int 0, .int 0, .int 0, .int 0, .int 0, .int 0, .long 0, .int 0])), (q7, .inl (k7, 64, .inl (fun _ => 0)))] H := hP
  have hD : va_D A [(h0, .inr (9, [.ref q7, .int 0, .int 0, .int 0, .int 0, .int 0, .int 0, .long 0, .int 0])), (q7, .inl (k7, 64, .inl (fun _ => 0)))] := hD
  refine lv_aload_n hx hb dX9_init_12 rfl (lv_at hl 0 rfl) ?_
  refine lv_iconst (v := (-1)) hx hb dX9_init_13 (by decide) ?_
  refine va_put (D := (dC, dI)) (ci := 9) (v := .int (-1)) (ty := .int) (C := RX9) (T := TX9) (N := 9) hx hb hts iX9_init_in9 tyX9 tyX9_ok nmX9 hown hK hP hD hS 0 rfl rfl 3 (by decide) (hts (.fieldLink RX9 15 "OptimaWorks$Words" "place" "I") (by decide +kernel)) (fun _ h9 => h9) rfl (by decide +kernel) rfl rfl (Nat.le_of_ble_eq_true rfl) dX9_init_14 (fun H locs hP hD hS => ?_)
  have hP : va_P (dC, dI) vwCl [(h0, .inr (9, [.ref q7, .int 0, .int 0, .int (-1), .int 0, .int 0, .int 0, .long 0, .int 0])), (q7, .inl (k7, 64, .inl (fun _ => 0)))] H := hP
  have hD : va_D A [(h0, .inr (9, [.ref q7, .int 0, .int 0, .int (-1), .int 0, .int 0, .int 0, .long 0, .int 0])), (q7, .inl (k7, 64, .inl (fun _ => 0)))] := hD
  refine W.widen (k := 1) (n := 64) (by decide +kernel) (by decide +kernel) ?_
  exact W.vret hx hb hr (fun t ht hW => ⟨⟨((fun n => [q7].getD n 0), (fun n => [k7].getD n k7)), rfl, trivial, by rw [ht]; exact hP, va_K.moved hW.alike hK, hD⟩, hS.F ht⟩) hS.2.2 dX9_init_17
def wsX1_init : List Cond := .code yX1_init cX1_init 1 none :: ([.methodLink RX1 3 objectInit, .instanceMethod objectInit, .code objectInit ⟨#[0xb1]⟩ 1 none, .arrayClass .int, .fieldLink RX1 9 "OptimaWorks$Model" "from" "[I", .fieldLink RX1 13 "OptimaWorks$Model" "to" "[I", .arrayClass .boolean, .fieldLink RX1 16 "OptimaWorks$Model" "whole" "[Z", .fieldLink RX1 20 "OptimaWorks$Model" "ways" "[I", .fieldLink RX1 23 "OptimaWorks$Model" "plainRow" "[I", .fieldLink RX1 26 "OptimaWorks$Model" "kept" "[I", .fieldLink RX1 29 "OptimaWorks$Model" "goalOver" "[I", .fieldLink RX1 32 "OptimaWorks$Model" "goalUnder" "[I", .fieldLink RX1 35 "OptimaWorks$Model" "goalMax" "[Z", .fieldLink RX1 38 "OptimaWorks$Model" "different" "[I"] ++ wsX10)
def wX1 (a : Nat → Nat) (k : Nat → ClassId) (h0 : Nat) : va_W := [(h0, .inr (1, [.int 0, .int 0, .int 0, .int 0, .int 0, .int 0, .ref (a 0), .ref (a 1), .ref (a 2), .ref (a 3), .int 0, .ref (a 4), .ref (a 5), .ref (a 6), .ref (a 7), .ref (a 8), .ref (a 9)])), ((a 0), .inl ((k 0), 8, .inl (fun _ => 0))), ((a 1), .inl ((k 1), 8, .inl (fun _ => 0))), ((a 2), .inl ((k 2), 8, .inl (fun _ => 0))), ((a 3), .inl ((k 3), 12, .inl (fun _ => 0))), ((a 4), .inl ((k 4), 12, .inl (fun _ => 0))), ((a 5), .inl ((k 5), 360, .inl (fun _ => 0))), ((a 6), .inl ((k 6), 27, .inl (fun _ => 0))), ((a 7), .inl ((k 7), 27, .inl (fun _ => 0))), ((a 8), .inl ((k 8), 3, .inl (fun _ => 0))), ((a 9), .inl ((k 9), 8, .inl (fun _ => 0)))]
def tX1 (k : Nat → ClassId) : List (ClassId × FieldType) := [((k 0), .int), ((k 1), .int), ((k 2), .boolean), ((k 3), .int), ((k 4), .int), ((k 5), .int), ((k 6), .int), ((k 7), .int), ((k 8), .boolean), ((k 9), .int)]
theorem dX1_init_0 : decode cX1_init 0 = .ok (.aload_n 0, 1) := by decide +kernel
theorem dX1_init_1 : decode cX1_init 1 = .ok (.invokespecial 3, 3) := by decide +kernel
theorem dX1_init_4 : decode cX1_init 4 = .ok (.aload_n 0, 1) := by decide +kernel
theorem dX1_init_5 : decode cX1_init 5 = .ok (.bipush 8, 2) := by decide +kernel
theorem dX1_init_7 : decode cX1_init 7 = .ok (.newarray .int, 2) := by decide +kernel
theorem dX1_init_9 : decode cX1_init 9 = .ok (.putfield 9, 3) := by decide +kernel
theorem dX1_init_12 : decode cX1_init 12 = .ok (.aload_n 0, 1) := by decide +kernel
theorem dX1_init_13 : decode cX1_init 13 = .ok (.bipush 8, 2) := by decide +kernel
theorem dX1_init_15 : decode cX1_init 15 = .ok (.newarray .int, 2) := by decide +kernel
theorem dX1_init_17 : decode cX1_init 17 = .ok (.putfield 13, 3) := by decide +kernel
theorem dX1_init_20 : decode cX1_init 20 = .ok (.aload_n 0, 1) := by decide +kernel
theorem dX1_init_21 : decode cX1_init 21 = .ok (.bipush 8, 2) := by decide +kernel
theorem dX1_init_23 : decode cX1_init 23 = .ok (.newarray .boolean, 2) := by decide +kernel
theorem dX1_init_25 : decode cX1_init 25 = .ok (.putfield 16, 3) := by decide +kernel
theorem dX1_init_28 : decode cX1_init 28 = .ok (.aload_n 0, 1) := by decide +kernel
theorem dX1_init_29 : decode cX1_init 29 = .ok (.bipush 12, 2) := by decide +kernel
theorem dX1_init_31 : decode cX1_init 31 = .ok (.newarray .int, 2) := by decide +kernel
theorem dX1_init_33 : decode cX1_init 33 = .ok (.putfield 20, 3) := by decide +kernel
theorem dX1_init_36 : decode cX1_init 36 = .ok (.aload_n 0, 1) := by decide +kernel
theorem dX1_init_37 : decode cX1_init 37 = .ok (.bipush 12, 2) := by decide +kernel
theorem dX1_init_39 : decode cX1_init 39 = .ok (.newarray .int, 2) := by decide +kernel
theorem dX1_init_41 : decode cX1_init 41 = .ok (.putfield 23, 3) := by decide +kernel
theorem dX1_init_44 : decode cX1_init 44 = .ok (.aload_n 0, 1) := by decide +kernel
theorem dX1_init_45 : decode cX1_init 45 = .ok (.sipush 360, 3) := by decide +kernel
theorem dX1_init_48 : decode cX1_init 48 = .ok (.newarray .int, 2) := by decide +kernel
theorem dX1_init_50 : decode cX1_init 50 = .ok (.putfield 26, 3) := by decide +kernel
theorem dX1_init_53 : decode cX1_init 53 = .ok (.aload_n 0, 1) := by decide +kernel
theorem dX1_init_54 : decode cX1_init 54 = .ok (.bipush 27, 2) := by decide +kernel
theorem dX1_init_56 : decode cX1_init 56 = .ok (.newarray .int, 2) := by decide +kernel
theorem dX1_init_58 : decode cX1_init 58 = .ok (.putfield 29, 3) := by decide +kernel
theorem dX1_init_61 : decode cX1_init 61 = .ok (.aload_n 0, 1) := by decide +kernel
theorem dX1_init_62 : decode cX1_init 62 = .ok (.bipush 27, 2) := by decide +kernel
theorem dX1_init_64 : decode cX1_init 64 = .ok (.newarray .int, 2) := by decide +kernel
theorem dX1_init_66 : decode cX1_init 66 = .ok (.putfield 32, 3) := by decide +kernel
theorem dX1_init_69 : decode cX1_init 69 = .ok (.aload_n 0, 1) := by decide +kernel
theorem dX1_init_70 : decode cX1_init 70 = .ok (.iconst 3, 1) := by decide +kernel
theorem dX1_init_71 : decode cX1_init 71 = .ok (.newarray .boolean, 2) := by decide +kernel
theorem dX1_init_73 : decode cX1_init 73 = .ok (.putfield 35, 3) := by decide +kernel
theorem dX1_init_76 : decode cX1_init 76 = .ok (.aload_n 0, 1) := by decide +kernel
theorem dX1_init_77 : decode cX1_init 77 = .ok (.bipush 8, 2) := by decide +kernel
theorem dX1_init_79 : decode cX1_init 79 = .ok (.newarray .int, 2) := by decide +kernel
theorem dX1_init_81 : decode cX1_init 81 = .ok (.putfield 38, 3) := by decide +kernel
theorem dX1_init_84 : decode cX1_init 84 = .ok (.return_, 1) := by decide +kernel
theorem iX1_init_in1 : ∀ w ∈ wsX10, w ∈ wsX1_init := fun _ h => List.mem_cons_of_mem _ (List.mem_append_right _ h)
set_option maxHeartbeats 4000000 in
set_option maxRecDepth 100000 in
/-- Model(): its rows come -/
theorem c_X1_init (l : Launch) (dC : Nat → ClassId) (dI : Nat → Nat → Nat) (h0 : Nat) (sz : Nat) : Met l yX1_init wsX1_init ({ frames := 1, cells := 10, slots := 473, locals := 12 }) (va_Pc [.ref h0] (fun U => U.heap.size = sz ∧ va_P (dC, dI) vwCl [(h0, .inr (1, [.int 0, .int 0, .int 0, .int 0, .int 0, .int 0, .null, .null, .null, .null, .int 0, .null, .null, .null, .null, .null, .null]))] U.heap ∧ va_K (dC, dI) vwCl [] U ∧ va_D (fun _ => True) [(h0, .inr (1, [.int 0, .int 0, .int 0, .int 0, .int 0, .int 0, .null, .null, .null, .null, .int 0, .null, .null, .null, .null, .null, .null]))])) (va_Qv (fun _ : (Nat → Nat) × (Nat → ClassId) => True) (fun u t => va_P (dC, dI) vwCl (wX1 u.1 u.2 h0) t.heap ∧ va_K (dC, dI) vwCl (tX1 u.2) t ∧ va_D (va_A [(h0, .inr (1, [.int 0, .int 0, .int 0, .int 0, .int 0, .int 0, .null, .null, .null, .null, .int 0, .null, .null, .null, .null, .null, .null]))] sz) (wX1 u.1 u.2 h0)) (va_A [(h0, .inr (1, [.int 0, .int 0, .int 0, .int 0, .int 0, .int 0, .null, .null, .null, .null, .int 0, .null, .null, .null, .null, .null, .null]))] sz)) 10 473 (va_A [(h0, .inr (1, [.int 0, .int 0, .int 0, .int 0, .int 0, .int 0, .null, .null, .null, .null, .int 0, .null, .null, .null, .null, .null, .null]))] sz) := by
  refine Met.ofW (cc := cX1_init) (maxL := 1) (ret := none) (by decide) rfl ?_
  intro p e s m args below meth c s₁ B hml hv
  obtain ⟨rfl, hsz, hP, hK, hD0⟩ := hv
  have hx := B.exec
  have hb := B.bytes
  have hr := B.returns
  have hts := atoms_spec (ws := wsX1_init) B.pre
  have hown : s.vm.findClass RX1 = some m.cls := findClass_of_methodNamed B.named
  have hlocks := B.notSynchronized
  have hin : meth.name = "<init>" := (name_of_methodNamed B.named B.method).1
  subst hsz
  have hD := hD0.self (sz := s.heap.size)
  generalize hAe : va_A [(h0, .inr (1, [.int 0, .int 0, .int 0, .int 0, .int 0, .int 0, .null, .null, .null, .null, .int 0, .null, .null, .null, .null, .null, .null]))] s.heap.size = A at hD ⊢
  have hA : ∀ q : Nat, s.heap.size ≤ q → A q := fun q h => by rw [← hAe]; exact Or.inr h
  have hS : va_S A s.heap s.heap [] := va_S.rf
  have hP : va_P (dC, dI) vwCl [(h0, .inr (1, [.int 0, .int 0, .int 0, .int 0, .int 0, .int 0, .null, .null, .null, .null, .int 0, .null, .null, .null, .null, .null, .null]))] s.heap := hP
  have hl := lv_entry ([.ref h0]) (n := 1) (Nat.le_of_ble_eq_true rfl)
  rw [lg_entry_eq]
  generalize (lg_sl ([.ref h0]) ++ List.replicate (1 - (lg_sl ([.ref h0])).length) Slot.unset).toArray = ls at hl ⊢
  have hl : lv_has ls 1 [(0, .ref h0)] := hl
  refine lv_aload_n hx hb dX1_init_0 rfl (lv_at hl 0 rfl) ?_
  refine W.objInit hx hb hown (hts (.methodLink RX1 3 objectInit) (by decide +kernel)) (hts (.instanceMethod objectInit) (by decide +kernel)) (hts (.code objectInit ⟨#[0xb1]⟩ 1 none) (by decide +kernel)) rfl (by rw [hml]; exact hl.1) rfl dX1_init_1 (by decide +kernel) (Nat.le_of_ble_eq_true rfl) ?_
  refine W.eq (g2 := F0 m 4 ls []) rfl ?_
  refine lv_aload_n hx hb dX1_init_4 rfl (lv_at hl 0 rfl) ?_
  refine lv_bipush (v := 8) hx hb dX1_init_5 (by decide) ?_
  refine va_newa (atype := .int) (ty := .int) (N' := 8) (a0 := (8, .inl (fun _ => 0))) hx hb (hts (.arrayClass .int) (by decide +kernel)) rfl hK hP hD hS hA (fun _ => rfl) (by decide) (by decide) (by decide +kernel) (by decide +kernel) (by decide +kernel) dX1_init_7 (fun q7 k7 H hK hP hD hS => ?_)
  have hP : va_P (dC, dI) vwCl [(h0, .inr (1, [.int 0, .int 0, .int 0, .int 0, .int 0, .int 0, .null, .null, .null, .null, .int 0, .null, .null, .null, .null, .null, .null])), (q7, .inl (k7, 8, .inl (fun _ => 0)))] H := hP
  have hD : va_D A [(h0, .inr (1, [.int 0, .int 0, .int 0, .int 0, .int 0, .int 0, .null, .null, .null, .null, .int 0, .null, .null, .null, .null, .null, .null])), (q7, .inl (k7, 8, .inl (fun _ => 0)))] := hD
  have hK : va_K (dC, dI) vwCl [(k7, .int)] s := hK
  refine W.widen (k := 1) (n := 8) (by decide +kernel) (by decide +kernel) ?_
  refine va_putF (D := (dC, dI)) (ci := 1) (v := .ref q7) (ty := .array .int) (C := RX1) (T := TX1) (N := 17) hx hb hts iX1_init_in1 tyX1 tyX1_ok nmX1 hown hK hP hD hS 0 rfl rfl 6 (by decide) (hts (.fieldLink RX1 9 "OptimaWorks$Model" "from" "[I") (by decide +kernel)) (fun _ h9 => h9) rfl hin rfl (by decide +kernel) rfl rfl (Nat.le_of_ble_eq_true rfl) dX1_init_9 (fun H locs hP hD hS => ?_)
  have hP : va_P (dC, dI) vwCl [(h0, .inr (1, [.int 0, .int 0, .int 0, .int 0, .int 0, .int 0, .ref q7, .null, .null, .null, .int 0, .null, .null, .null, .null, .null, .null])), (q7, .inl (k7, 8, .inl (fun _ => 0)))] H := hP
  have hD : va_D A [(h0, .inr (1, [.int 0, .int 0, .int 0, .int 0, .int 0, .int 0, .ref q7, .null, .null, .null, .int 0, .null, .null, .null, .null, .null, .null])), (q7, .inl (k7, 8, .inl (fun _ => 0)))] := hD
  refine lv_aload_n hx hb dX1_init_12 rfl (lv_at hl 0 rfl) ?_
  refine lv_bipush (v := 8) hx hb dX1_init_13 (by decide) ?_
  refine va_newa (atype := .int) (ty := .int) (N' := 8) (a0 := (8, .inl (fun _ => 0))) hx hb (hts (.arrayClass .int) (by decide +kernel)) rfl hK hP hD hS hA (fun _ => rfl) (by decide) (by decide) (by decide +kernel) (by decide +kernel) (by decide +kernel) dX1_init_15 (fun q15 k15 H hK hP hD hS => ?_)
  have hP : va_P (dC, dI) vwCl [(h0, .inr (1, [.int 0, .int 0, .int 0, .int 0, .int 0, .int 0, .ref q7, .null, .null, .null, .int 0, .null, .null, .null, .null, .null, .null])), (q7, .inl (k7, 8, .inl (fun _ => 0))), (q15, .inl (k15, 8, .inl (fun _ => 0)))] H := hP
  have hD : va_D A [(h0, .inr (1, [.int 0, .int 0, .int 0, .int 0, .int 0, .int 0, .ref q7, .null, .null, .null, .int 0, .null, .null, .null, .null, .null, .null])), (q7, .inl (k7, 8, .inl (fun _ => 0))), (q15, .inl (k15, 8, .inl (fun _ => 0)))] := hD
  have hK : va_K (dC, dI) vwCl [(k7, .int), (k15, .int)] s := hK
  refine W.widen (k := 2) (n := 16) (by decide +kernel) (by decide +kernel) ?_
  refine va_putF (D := (dC, dI)) (ci := 1) (v := .ref q15) (ty := .array .int) (C := RX1) (T := TX1) (N := 17) hx hb hts iX1_init_in1 tyX1 tyX1_ok nmX1 hown hK hP hD hS 0 rfl rfl 7 (by decide) (hts (.fieldLink RX1 13 "OptimaWorks$Model" "to" "[I") (by decide +kernel)) (fun _ h9 => h9) rfl hin rfl (by decide +kernel) rfl rfl (Nat.le_of_ble_eq_true rfl) dX1_init_17 (fun H locs hP hD hS => ?_)
  have hP : va_P (dC, dI) vwCl [(h0, .inr (1, [.int 0, .int 0, .int 0, .int 0, .int 0, .int 0, .ref q7, .ref q15, .null, .null, .int 0, .null, .null, .null, .null, .null, .null])), (q7, .inl (k7, 8, .inl (fun _ => 0))), (q15, .inl (k15, 8, .inl (fun _ => 0)))] H := hP
  have hD : va_D A [(h0, .inr (1, [.int 0, .int 0, .int 0, .int 0, .int 0, .int 0, .ref q7, .ref q15, .null, .null, .int 0, .null, .null, .null, .null, .null, .null])), (q7, .inl (k7, 8, .inl (fun _ => 0))), (q15, .inl (k15, 8, .inl (fun _ => 0)))] := hD
  refine lv_aload_n hx hb dX1_init_20 rfl (lv_at hl 0 rfl) ?_
  refine lv_bipush (v := 8) hx hb dX1_init_21 (by decide) ?_
  refine va_newa (atype := .boolean) (ty := .boolean) (N' := 8) (a0 := (8, .inl (fun _ => 0))) hx hb (hts (.arrayClass .boolean) (by decide +kernel)) rfl hK hP hD hS hA (fun _ => rfl) (by decide) (by decide) (by decide +kernel) (by decide +kernel) (by decide +kernel) dX1_init_23 (fun q23 k23 H hK hP hD hS => ?_)
  have hP : va_P (dC, dI) vwCl [(h0, .inr (1, [.int 0, .int 0, .int 0, .int 0, .int 0, .int 0, .ref q7, .ref q15, .null, .null, .int 0, .null, .null, .null, .null, .null, .null])), (q7, .inl (k7, 8, .inl (fun _ => 0))), (q15, .inl (k15, 8, .inl (fun _ => 0))), (q23, .inl (k23, 8, .inl (fun _ => 0)))] H := hP
  have hD : va_D A [(h0, .inr (1, [.int 0, .int 0, .int 0, .int 0, .int 0, .int 0, .ref q7, .ref q15, .null, .null, .int 0, .null, .null, .null, .null, .null, .null])), (q7, .inl (k7, 8, .inl (fun _ => 0))), (q15, .inl (k15, 8, .inl (fun _ => 0))), (q23, .inl (k23, 8, .inl (fun _ => 0)))] := hD
  have hK : va_K (dC, dI) vwCl [(k7, .int), (k15, .int), (k23, .boolean)] s := hK
  refine W.widen (k := 3) (n := 24) (by decide +kernel) (by decide +kernel) ?_
  refine va_putF (D := (dC, dI)) (ci := 1) (v := .ref q23) (ty := .array .boolean) (C := RX1) (T := TX1) (N := 17) hx hb hts iX1_init_in1 tyX1 tyX1_ok nmX1 hown hK hP hD hS 0 rfl rfl 8 (by decide) (hts (.fieldLink RX1 16 "OptimaWorks$Model" "whole" "[Z") (by decide +kernel)) (fun _ h9 => h9) rfl hin rfl (by decide +kernel) rfl rfl (Nat.le_of_ble_eq_true rfl) dX1_init_25 (fun H locs hP hD hS => ?_)
  have hP : va_P (dC, dI) vwCl [(h0, .inr (1, [.int 0, .int 0, .int 0, .int 0, .int 0, .int 0, .ref q7, .ref q15, .ref q23, .null, .int 0, .null, .null, .null, .null, .null, .null])), (q7, .inl (k7, 8, .inl (fun _ => 0))), (q15, .inl (k15, 8, .inl (fun _ => 0))), (q23, .inl (k23, 8, .inl (fun _ => 0)))] H := hP
  have hD : va_D A [(h0, .inr (1, [.int 0, .int 0, .int 0, .int 0, .int 0, .int 0, .ref q7, .ref q15, .ref q23, .null, .int 0, .null, .null, .null, .null, .null, .null])), (q7, .inl (k7, 8, .inl (fun _ => 0))), (q15, .inl (k15, 8, .inl (fun _ => 0))), (q23, .inl (k23, 8, .inl (fun _ => 0)))] := hD
  refine lv_aload_n hx hb dX1_init_28 rfl (lv_at hl 0 rfl) ?_
  refine lv_bipush (v := 12) hx hb dX1_init_29 (by decide) ?_
  refine va_newa (atype := .int) (ty := .int) (N' := 12) (a0 := (12, .inl (fun _ => 0))) hx hb (hts (.arrayClass .int) (by decide +kernel)) rfl hK hP hD hS hA (fun _ => rfl) (by decide) (by decide) (by decide +kernel) (by decide +kernel) (by decide +kernel) dX1_init_31 (fun q31 k31 H hK hP hD hS => ?_)
  have hP : va_P (dC, dI) vwCl [(h0, .inr (1, [.int 0, .int 0, .int 0, .int 0, .int 0, .int 0, .ref q7, .ref q15, .ref q23, .null, .int 0, .null, .null, .null, .null, .null, .null])), (q7, .inl (k7, 8, .inl (fun _ => 0))), (q15, .inl (k15, 8, .inl (fun _ => 0))), (q23, .inl (k23, 8, .inl (fun _ => 0))), (q31, .inl (k31, 12, .inl (fun _ => 0)))] H := hP
  have hD : va_D A [(h0, .inr (1, [.int 0, .int 0, .int 0, .int 0, .int 0, .int 0, .ref q7, .ref q15, .ref q23, .null, .int 0, .null, .null, .null, .null, .null, .null])), (q7, .inl (k7, 8, .inl (fun _ => 0))), (q15, .inl (k15, 8, .inl (fun _ => 0))), (q23, .inl (k23, 8, .inl (fun _ => 0))), (q31, .inl (k31, 12, .inl (fun _ => 0)))] := hD
  have hK : va_K (dC, dI) vwCl [(k7, .int), (k15, .int), (k23, .boolean), (k31, .int)] s := hK
  refine W.widen (k := 4) (n := 36) (by decide +kernel) (by decide +kernel) ?_
  refine va_putF (D := (dC, dI)) (ci := 1) (v := .ref q31) (ty := .array .int) (C := RX1) (T := TX1) (N := 17) hx hb hts iX1_init_in1 tyX1 tyX1_ok nmX1 hown hK hP hD hS 0 rfl rfl 9 (by decide) (hts (.fieldLink RX1 20 "OptimaWorks$Model" "ways" "[I") (by decide +kernel)) (fun _ h9 => h9) rfl hin rfl (by decide +kernel) rfl rfl (Nat.le_of_ble_eq_true rfl) dX1_init_33 (fun H locs hP hD hS => ?_)
  have hP : va_P (dC, dI) vwCl [(h0, .inr (1, [.int 0, .int 0, .int 0, .int 0, .int 0, .int 0, .ref q7, .ref q15, .ref q23, .ref q31, .int 0, .null, .null, .null, .null, .null, .null])), (q7, .inl (k7, 8, .inl (fun _ => 0))), (q15, .inl (k15, 8, .inl (fun _ => 0))), (q23, .inl (k23, 8, .inl (fun _ => 0))), (q31, .inl (k31, 12, .inl (fun _ => 0)))] H := hP
  have hD : va_D A [(h0, .inr (1, [.int 0, .int 0, .int 0, .int 0, .int 0, .int 0, .ref q7, .ref q15, .ref q23, .ref q31, .int 0, .null, .null, .null, .null, .null, .null])), (q7, .inl (k7, 8, .inl (fun _ => 0))), (q15, .inl (k15, 8, .inl (fun _ => 0))), (q23, .inl (k23, 8, .inl (fun _ => 0))), (q31, .inl (k31, 12, .inl (fun _ => 0)))] := hD
  refine lv_aload_n hx hb dX1_init_36 rfl (lv_at hl 0 rfl) ?_
  refine lv_bipush (v := 12) hx hb dX1_init_37 (by decide) ?_
  refine va_newa (atype := .int) (ty := .int) (N' := 12) (a0 := (12, .inl (fun _ => 0))) hx hb (hts (.arrayClass .int) (by decide +kernel)) rfl hK hP hD hS hA (fun _ => rfl) (by decide) (by decide) (by decide +kernel) (by decide +kernel) (by decide +kernel) dX1_init_39 (fun q39 k39 H hK hP hD hS => ?_)
  have hP : va_P (dC, dI) vwCl [(h0, .inr (1, [.int 0, .int 0, .int 0, .int 0, .int 0, .int 0, .ref q7, .ref q15, .ref q23, .ref q31, .int 0, .null, .null, .null, .null, .null, .null])), (q7, .inl (k7, 8, .inl (fun _ => 0))), (q15, .inl (k15, 8, .inl (fun _ => 0))), (q23, .inl (k23, 8, .inl (fun _ => 0))), (q31, .inl (k31, 12, .inl (fun _ => 0))), (q39, .inl (k39, 12, .inl (fun _ => 0)))] H := hP
  have hD : va_D A [(h0, .inr (1, [.int 0, .int 0, .int 0, .int 0, .int 0, .int 0, .ref q7, .ref q15, .ref q23, .ref q31, .int 0, .null, .null, .null, .null, .null, .null])), (q7, .inl (k7, 8, .inl (fun _ => 0))), (q15, .inl (k15, 8, .inl (fun _ => 0))), (q23, .inl (k23, 8, .inl (fun _ => 0))), (q31, .inl (k31, 12, .inl (fun _ => 0))), (q39, .inl (k39, 12, .inl (fun _ => 0)))] := hD
  have hK : va_K (dC, dI) vwCl [(k7, .int), (k15, .int), (k23, .boolean), (k31, .int), (k39, .int)] s := hK
  refine W.widen (k := 5) (n := 48) (by decide +kernel) (by decide +kernel) ?_
  refine va_putF (D := (dC, dI)) (ci := 1) (v := .ref q39) (ty := .array .int) (C := RX1) (T := TX1) (N := 17) hx hb hts iX1_init_in1 tyX1 tyX1_ok nmX1 hown hK hP hD hS 0 rfl rfl 11 (by decide) (hts (.fieldLink RX1 23 "OptimaWorks$Model" "plainRow" "[I") (by decide +kernel)) (fun _ h9 => h9) rfl hin rfl (by decide +kernel) rfl rfl (Nat.le_of_ble_eq_true rfl) dX1_init_41 (fun H locs hP hD hS => ?_)
  have hP : va_P (dC, dI) vwCl [(h0, .inr (1, [.int 0, .int 0, .int 0, .int 0, .int 0, .int 0, .ref q7, .ref q15, .ref q23, .ref q31, .int 0, .ref q39, .null, .null, .null, .null, .null])), (q7, .inl (k7, 8, .inl (fun _ => 0))), (q15, .inl (k15, 8, .inl (fun _ => 0))), (q23, .inl (k23, 8, .inl (fun _ => 0))), (q31, .inl (k31, 12, .inl (fun _ => 0))), (q39, .inl (k39, 12, .inl (fun _ => 0)))] H := hP
  have hD : va_D A [(h0, .inr (1, [.int 0, .int 0, .int 0, .int 0, .int 0, .int 0, .ref q7, .ref q15, .ref q23, .ref q31, .int 0, .ref q39, .null, .null, .null, .null, .null])), (q7, .inl (k7, 8, .inl (fun _ => 0))), (q15, .inl (k15, 8, .inl (fun _ => 0))), (q23, .inl (k23, 8, .inl (fun _ => 0))), (q31, .inl (k31, 12, .inl (fun _ => 0))), (q39, .inl (k39, 12, .inl (fun _ => 0)))] := hD
  refine lv_aload_n hx hb dX1_init_44 rfl (lv_at hl 0 rfl) ?_
  refine lv_sipush (v := 360) hx hb dX1_init_45 (by decide) ?_
  refine va_newa (atype := .int) (ty := .int) (N' := 360) (a0 := (360, .inl (fun _ => 0))) hx hb (hts (.arrayClass .int) (by decide +kernel)) rfl hK hP hD hS hA (fun _ => rfl) (by decide) (by decide) (by decide +kernel) (by decide +kernel) (by decide +kernel) dX1_init_48 (fun q48 k48 H hK hP hD hS => ?_)
  have hP : va_P (dC, dI) vwCl [(h0, .inr (1, [.int 0, .int 0, .int 0, .int 0, .int 0, .int 0, .ref q7, .ref q15, .ref q23, .ref q31, .int 0, .ref q39, .null, .null, .null, .null, .null])), (q7, .inl (k7, 8, .inl (fun _ => 0))), (q15, .inl (k15, 8, .inl (fun _ => 0))), (q23, .inl (k23, 8, .inl (fun _ => 0))), (q31, .inl (k31, 12, .inl (fun _ => 0))), (q39, .inl (k39, 12, .inl (fun _ => 0))), (q48, .inl (k48, 360, .inl (fun _ => 0)))] H := hP
  have hD : va_D A [(h0, .inr (1, [.int 0, .int 0, .int 0, .int 0, .int 0, .int 0, .ref q7, .ref q15, .ref q23, .ref q31, .int 0, .ref q39, .null, .null, .null, .null, .null])), (q7, .inl (k7, 8, .inl (fun _ => 0))), (q15, .inl (k15, 8, .inl (fun _ => 0))), (q23, .inl (k23, 8, .inl (fun _ => 0))), (q31, .inl (k31, 12, .inl (fun _ => 0))), (q39, .inl (k39, 12, .inl (fun _ => 0))), (q48, .inl (k48, 360, .inl (fun _ => 0)))] := hD
  have hK : va_K (dC, dI) vwCl [(k7, .int), (k15, .int), (k23, .boolean), (k31, .int), (k39, .int), (k48, .int)] s := hK
  refine W.widen (k := 6) (n := 408) (by decide +kernel) (by decide +kernel) ?_
  refine va_putF (D := (dC, dI)) (ci := 1) (v := .ref q48) (ty := .array .int) (C := RX1) (T := TX1) (N := 17) hx hb hts iX1_init_in1 tyX1 tyX1_ok nmX1 hown hK hP hD hS 0 rfl rfl 12 (by decide) (hts (.fieldLink RX1 26 "OptimaWorks$Model" "kept" "[I") (by decide +kernel)) (fun _ h9 => h9) rfl hin rfl (by decide +kernel) rfl rfl (Nat.le_of_ble_eq_true rfl) dX1_init_50 (fun H locs hP hD hS => ?_)
  have hP : va_P (dC, dI) vwCl [(h0, .inr (1, [.int 0, .int 0, .int 0, .int 0, .int 0, .int 0, .ref q7, .ref q15, .ref q23, .ref q31, .int 0, .ref q39, .ref q48, .null, .null, .null, .null])), (q7, .inl (k7, 8, .inl (fun _ => 0))), (q15, .inl (k15, 8, .inl (fun _ => 0))), (q23, .inl (k23, 8, .inl (fun _ => 0))), (q31, .inl (k31, 12, .inl (fun _ => 0))), (q39, .inl (k39, 12, .inl (fun _ => 0))), (q48, .inl (k48, 360, .inl (fun _ => 0)))] H := hP
  have hD : va_D A [(h0, .inr (1, [.int 0, .int 0, .int 0, .int 0, .int 0, .int 0, .ref q7, .ref q15, .ref q23, .ref q31, .int 0, .ref q39, .ref q48, .null, .null, .null, .null])), (q7, .inl (k7, 8, .inl (fun _ => 0))), (q15, .inl (k15, 8, .inl (fun _ => 0))), (q23, .inl (k23, 8, .inl (fun _ => 0))), (q31, .inl (k31, 12, .inl (fun _ => 0))), (q39, .inl (k39, 12, .inl (fun _ => 0))), (q48, .inl (k48, 360, .inl (fun _ => 0)))] := hD
  refine lv_aload_n hx hb dX1_init_53 rfl (lv_at hl 0 rfl) ?_
  refine lv_bipush (v := 27) hx hb dX1_init_54 (by decide) ?_
  refine va_newa (atype := .int) (ty := .int) (N' := 27) (a0 := (27, .inl (fun _ => 0))) hx hb (hts (.arrayClass .int) (by decide +kernel)) rfl hK hP hD hS hA (fun _ => rfl) (by decide) (by decide) (by decide +kernel) (by decide +kernel) (by decide +kernel) dX1_init_56 (fun q56 k56 H hK hP hD hS => ?_)
  have hP : va_P (dC, dI) vwCl [(h0, .inr (1, [.int 0, .int 0, .int 0, .int 0, .int 0, .int 0, .ref q7, .ref q15, .ref q23, .ref q31, .int 0, .ref q39, .ref q48, .null, .null, .null, .null])), (q7, .inl (k7, 8, .inl (fun _ => 0))), (q15, .inl (k15, 8, .inl (fun _ => 0))), (q23, .inl (k23, 8, .inl (fun _ => 0))), (q31, .inl (k31, 12, .inl (fun _ => 0))), (q39, .inl (k39, 12, .inl (fun _ => 0))), (q48, .inl (k48, 360, .inl (fun _ => 0))), (q56, .inl (k56, 27, .inl (fun _ => 0)))] H := hP
  have hD : va_D A [(h0, .inr (1, [.int 0, .int 0, .int 0, .int 0, .int 0, .int 0, .ref q7, .ref q15, .ref q23, .ref q31, .int 0, .ref q39, .ref q48, .null, .null, .null, .null])), (q7, .inl (k7, 8, .inl (fun _ => 0))), (q15, .inl (k15, 8, .inl (fun _ => 0))), (q23, .inl (k23, 8, .inl (fun _ => 0))), (q31, .inl (k31, 12, .inl (fun _ => 0))), (q39, .inl (k39, 12, .inl (fun _ => 0))), (q48, .inl (k48, 360, .inl (fun _ => 0))), (q56, .inl (k56, 27, .inl (fun _ => 0)))] := hD
  have hK : va_K (dC, dI) vwCl [(k7, .int), (k15, .int), (k23, .boolean), (k31, .int), (k39, .int), (k48, .int), (k56, .int)] s := hK
  refine W.widen (k := 7) (n := 435) (by decide +kernel) (by decide +kernel) ?_
  refine va_putF (D := (dC, dI)) (ci := 1) (v := .ref q56) (ty := .array .int) (C := RX1) (T := TX1) (N := 17) hx hb hts iX1_init_in1 tyX1 tyX1_ok nmX1 hown hK hP hD hS 0 rfl rfl 13 (by decide) (hts (.fieldLink RX1 29 "OptimaWorks$Model" "goalOver" "[I") (by decide +kernel)) (fun _ h9 => h9) rfl hin rfl (by decide +kernel) rfl rfl (Nat.le_of_ble_eq_true rfl) dX1_init_58 (fun H locs hP hD hS => ?_)
  have hP : va_P (dC, dI) vwCl [(h0, .inr (1, [.int 0, .int 0, .int 0, .int 0, .int 0, .int 0, .ref q7, .ref q15, .ref q23, .ref q31, .int 0, .ref q39, .ref q48, .ref q56, .null, .null, .null])), (q7, .inl (k7, 8, .inl (fun _ => 0))), (q15, .inl (k15, 8, .inl (fun _ => 0))), (q23, .inl (k23, 8, .inl (fun _ => 0))), (q31, .inl (k31, 12, .inl (fun _ => 0))), (q39, .inl (k39, 12, .inl (fun _ => 0))), (q48, .inl (k48, 360, .inl (fun _ => 0))), (q56, .inl (k56, 27, .inl (fun _ => 0)))] H := hP
  have hD : va_D A [(h0, .inr (1, [.int 0, .int 0, .int 0, .int 0, .int 0, .int 0, .ref q7, .ref q15, .ref q23, .ref q31, .int 0, .ref q39, .ref q48, .ref q56, .null, .null, .null])), (q7, .inl (k7, 8, .inl (fun _ => 0))), (q15, .inl (k15, 8, .inl (fun _ => 0))), (q23, .inl (k23, 8, .inl (fun _ => 0))), (q31, .inl (k31, 12, .inl (fun _ => 0))), (q39, .inl (k39, 12, .inl (fun _ => 0))), (q48, .inl (k48, 360, .inl (fun _ => 0))), (q56, .inl (k56, 27, .inl (fun _ => 0)))] := hD
  refine lv_aload_n hx hb dX1_init_61 rfl (lv_at hl 0 rfl) ?_
  refine lv_bipush (v := 27) hx hb dX1_init_62 (by decide) ?_
  refine va_newa (atype := .int) (ty := .int) (N' := 27) (a0 := (27, .inl (fun _ => 0))) hx hb (hts (.arrayClass .int) (by decide +kernel)) rfl hK hP hD hS hA (fun _ => rfl) (by decide) (by decide) (by decide +kernel) (by decide +kernel) (by decide +kernel) dX1_init_64 (fun q64 k64 H hK hP hD hS => ?_)
  have hP : va_P (dC, dI) vwCl [(h0, .inr (1, [.int 0, .int 0, .int 0, .int 0, .int 0, .int 0, .ref q7, .ref q15, .ref q23, .ref q31, .int 0, .ref q39, .ref q48, .ref q56, .null, .null, .null])), (q7, .inl (k7, 8, .inl (fun _ => 0))), (q15, .inl (k15, 8, .inl (fun _ => 0))), (q23, .inl (k23, 8, .inl (fun _ => 0))), (q31, .inl (k31, 12, .inl (fun _ => 0))), (q39, .inl (k39, 12, .inl (fun _ => 0))), (q48, .inl (k48, 360, .inl (fun _ => 0))), (q56, .inl (k56, 27, .inl (fun _ => 0))), (q64, .inl (k64, 27, .inl (fun _ => 0)))] H := hP
  have hD : va_D A [(h0, .inr (1, [.int 0, .int 0, .int 0, .int 0, .int 0, .int 0, .ref q7, .ref q15, .ref q23, .ref q31, .int 0, .ref q39, .ref q48, .ref q56, .null, .null, .null])), (q7, .inl (k7, 8, .inl (fun _ => 0))), (q15, .inl (k15, 8, .inl (fun _ => 0))), (q23, .inl (k23, 8, .inl (fun _ => 0))), (q31, .inl (k31, 12, .inl (fun _ => 0))), (q39, .inl (k39, 12, .inl (fun _ => 0))), (q48, .inl (k48, 360, .inl (fun _ => 0))), (q56, .inl (k56, 27, .inl (fun _ => 0))), (q64, .inl (k64, 27, .inl (fun _ => 0)))] := hD
  have hK : va_K (dC, dI) vwCl [(k7, .int), (k15, .int), (k23, .boolean), (k31, .int), (k39, .int), (k48, .int), (k56, .int), (k64, .int)] s := hK
  refine W.widen (k := 8) (n := 462) (by decide +kernel) (by decide +kernel) ?_
  refine va_putF (D := (dC, dI)) (ci := 1) (v := .ref q64) (ty := .array .int) (C := RX1) (T := TX1) (N := 17) hx hb hts iX1_init_in1 tyX1 tyX1_ok nmX1 hown hK hP hD hS 0 rfl rfl 14 (by decide) (hts (.fieldLink RX1 32 "OptimaWorks$Model" "goalUnder" "[I") (by decide +kernel)) (fun _ h9 => h9) rfl hin rfl (by decide +kernel) rfl rfl (Nat.le_of_ble_eq_true rfl) dX1_init_66 (fun H locs hP hD hS => ?_)
  have hP : va_P (dC, dI) vwCl [(h0, .inr (1, [.int 0, .int 0, .int 0, .int 0, .int 0, .int 0, .ref q7, .ref q15, .ref q23, .ref q31, .int 0, .ref q39, .ref q48, .ref q56, .ref q64, .null, .null])), (q7, .inl (k7, 8, .inl (fun _ => 0))), (q15, .inl (k15, 8, .inl (fun _ => 0))), (q23, .inl (k23, 8, .inl (fun _ => 0))), (q31, .inl (k31, 12, .inl (fun _ => 0))), (q39, .inl (k39, 12, .inl (fun _ => 0))), (q48, .inl (k48, 360, .inl (fun _ => 0))), (q56, .inl (k56, 27, .inl (fun _ => 0))), (q64, .inl (k64, 27, .inl (fun _ => 0)))] H := hP
  have hD : va_D A [(h0, .inr (1, [.int 0, .int 0, .int 0, .int 0, .int 0, .int 0, .ref q7, .ref q15, .ref q23, .ref q31, .int 0, .ref q39, .ref q48, .ref q56, .ref q64, .null, .null])), (q7, .inl (k7, 8, .inl (fun _ => 0))), (q15, .inl (k15, 8, .inl (fun _ => 0))), (q23, .inl (k23, 8, .inl (fun _ => 0))), (q31, .inl (k31, 12, .inl (fun _ => 0))), (q39, .inl (k39, 12, .inl (fun _ => 0))), (q48, .inl (k48, 360, .inl (fun _ => 0))), (q56, .inl (k56, 27, .inl (fun _ => 0))), (q64, .inl (k64, 27, .inl (fun _ => 0)))] := hD
  refine lv_aload_n hx hb dX1_init_69 rfl (lv_at hl 0 rfl) ?_
  refine lv_iconst (v := 3) hx hb dX1_init_70 (by decide) ?_
  refine va_newa (atype := .boolean) (ty := .boolean) (N' := 3) (a0 := (3, .inl (fun _ => 0))) hx hb (hts (.arrayClass .boolean) (by decide +kernel)) rfl hK hP hD hS hA (fun _ => rfl) (by decide) (by decide) (by decide +kernel) (by decide +kernel) (by decide +kernel) dX1_init_71 (fun q71 k71 H hK hP hD hS => ?_)
  have hP : va_P (dC, dI) vwCl [(h0, .inr (1, [.int 0, .int 0, .int 0, .int 0, .int 0, .int 0, .ref q7, .ref q15, .ref q23, .ref q31, .int 0, .ref q39, .ref q48, .ref q56, .ref q64, .null, .null])), (q7, .inl (k7, 8, .inl (fun _ => 0))), (q15, .inl (k15, 8, .inl (fun _ => 0))), (q23, .inl (k23, 8, .inl (fun _ => 0))), (q31, .inl (k31, 12, .inl (fun _ => 0))), (q39, .inl (k39, 12, .inl (fun _ => 0))), (q48, .inl (k48, 360, .inl (fun _ => 0))), (q56, .inl (k56, 27, .inl (fun _ => 0))), (q64, .inl (k64, 27, .inl (fun _ => 0))), (q71, .inl (k71, 3, .inl (fun _ => 0)))] H := hP
  have hD : va_D A [(h0, .inr (1, [.int 0, .int 0, .int 0, .int 0, .int 0, .int 0, .ref q7, .ref q15, .ref q23, .ref q31, .int 0, .ref q39, .ref q48, .ref q56, .ref q64, .null, .null])), (q7, .inl (k7, 8, .inl (fun _ => 0))), (q15, .inl (k15, 8, .inl (fun _ => 0))), (q23, .inl (k23, 8, .inl (fun _ => 0))), (q31, .inl (k31, 12, .inl (fun _ => 0))), (q39, .inl (k39, 12, .inl (fun _ => 0))), (q48, .inl (k48, 360, .inl (fun _ => 0))), (q56, .inl (k56, 27, .inl (fun _ => 0))), (q64, .inl (k64, 27, .inl (fun _ => 0))), (q71, .inl (k71, 3, .inl (fun _ => 0)))] := hD
  have hK : va_K (dC, dI) vwCl [(k7, .int), (k15, .int), (k23, .boolean), (k31, .int), (k39, .int), (k48, .int), (k56, .int), (k64, .int), (k71, .boolean)] s := hK
  refine W.widen (k := 9) (n := 465) (by decide +kernel) (by decide +kernel) ?_
  refine va_putF (D := (dC, dI)) (ci := 1) (v := .ref q71) (ty := .array .boolean) (C := RX1) (T := TX1) (N := 17) hx hb hts iX1_init_in1 tyX1 tyX1_ok nmX1 hown hK hP hD hS 0 rfl rfl 15 (by decide) (hts (.fieldLink RX1 35 "OptimaWorks$Model" "goalMax" "[Z") (by decide +kernel)) (fun _ h9 => h9) rfl hin rfl (by decide +kernel) rfl rfl (Nat.le_of_ble_eq_true rfl) dX1_init_73 (fun H locs hP hD hS => ?_)
  have hP : va_P (dC, dI) vwCl [(h0, .inr (1, [.int 0, .int 0, .int 0, .int 0, .int 0, .int 0, .ref q7, .ref q15, .ref q23, .ref q31, .int 0, .ref q39, .ref q48, .ref q56, .ref q64, .ref q71, .null])), (q7, .inl (k7, 8, .inl (fun _ => 0))), (q15, .inl (k15, 8, .inl (fun _ => 0))), (q23, .inl (k23, 8, .inl (fun _ => 0))), (q31, .inl (k31, 12, .inl (fun _ => 0))), (q39, .inl (k39, 12, .inl (fun _ => 0))), (q48, .inl (k48, 360, .inl (fun _ => 0))), (q56, .inl (k56, 27, .inl (fun _ => 0))), (q64, .inl (k64, 27, .inl (fun _ => 0))), (q71, .inl (k71, 3, .inl (fun _ => 0)))] H := hP
  have hD : va_D A [(h0, .inr (1, [.int 0, .int 0, .int 0, .int 0, .int 0, .int 0, .ref q7, .ref q15, .ref q23, .ref q31, .int 0, .ref q39, .ref q48, .ref q56, .ref q64, .ref q71, .null])), (q7, .inl (k7, 8, .inl (fun _ => 0))), (q15, .inl (k15, 8, .inl (fun _ => 0))), (q23, .inl (k23, 8, .inl (fun _ => 0))), (q31, .inl (k31, 12, .inl (fun _ => 0))), (q39, .inl (k39, 12, .inl (fun _ => 0))), (q48, .inl (k48, 360, .inl (fun _ => 0))), (q56, .inl (k56, 27, .inl (fun _ => 0))), (q64, .inl (k64, 27, .inl (fun _ => 0))), (q71, .inl (k71, 3, .inl (fun _ => 0)))] := hD
  refine lv_aload_n hx hb dX1_init_76 rfl (lv_at hl 0 rfl) ?_
  refine lv_bipush (v := 8) hx hb dX1_init_77 (by decide) ?_
  refine va_newa (atype := .int) (ty := .int) (N' := 8) (a0 := (8, .inl (fun _ => 0))) hx hb (hts (.arrayClass .int) (by decide +kernel)) rfl hK hP hD hS hA (fun _ => rfl) (by decide) (by decide) (by decide +kernel) (by decide +kernel) (by decide +kernel) dX1_init_79 (fun q79 k79 H hK hP hD hS => ?_)
  have hP : va_P (dC, dI) vwCl [(h0, .inr (1, [.int 0, .int 0, .int 0, .int 0, .int 0, .int 0, .ref q7, .ref q15, .ref q23, .ref q31, .int 0, .ref q39, .ref q48, .ref q56, .ref q64, .ref q71, .null])), (q7, .inl (k7, 8, .inl (fun _ => 0))), (q15, .inl (k15, 8, .inl (fun _ => 0))), (q23, .inl (k23, 8, .inl (fun _ => 0))), (q31, .inl (k31, 12, .inl (fun _ => 0))), (q39, .inl (k39, 12, .inl (fun _ => 0))), (q48, .inl (k48, 360, .inl (fun _ => 0))), (q56, .inl (k56, 27, .inl (fun _ => 0))), (q64, .inl (k64, 27, .inl (fun _ => 0))), (q71, .inl (k71, 3, .inl (fun _ => 0))), (q79, .inl (k79, 8, .inl (fun _ => 0)))] H := hP
  have hD : va_D A [(h0, .inr (1, [.int 0, .int 0, .int 0, .int 0, .int 0, .int 0, .ref q7, .ref q15, .ref q23, .ref q31, .int 0, .ref q39, .ref q48, .ref q56, .ref q64, .ref q71, .null])), (q7, .inl (k7, 8, .inl (fun _ => 0))), (q15, .inl (k15, 8, .inl (fun _ => 0))), (q23, .inl (k23, 8, .inl (fun _ => 0))), (q31, .inl (k31, 12, .inl (fun _ => 0))), (q39, .inl (k39, 12, .inl (fun _ => 0))), (q48, .inl (k48, 360, .inl (fun _ => 0))), (q56, .inl (k56, 27, .inl (fun _ => 0))), (q64, .inl (k64, 27, .inl (fun _ => 0))), (q71, .inl (k71, 3, .inl (fun _ => 0))), (q79, .inl (k79, 8, .inl (fun _ => 0)))] := hD
  have hK : va_K (dC, dI) vwCl [(k7, .int), (k15, .int), (k23, .boolean), (k31, .int), (k39, .int), (k48, .int), (k56, .int), (k64, .int), (k71, .boolean), (k79, .int)] s := hK
  refine W.widen (k := 10) (n := 473) (by decide +kernel) (by decide +kernel) ?_
  refine va_putF (D := (dC, dI)) (ci := 1) (v := .ref q79) (ty := .array .int) (C := RX1) (T := TX1) (N := 17) hx hb hts iX1_init_in1 tyX1 tyX1_ok nmX1 hown hK hP hD hS 0 rfl rfl 16 (by decide) (hts (.fieldLink RX1 38 "OptimaWorks$Model" "different" "[I") (by decide +kernel)) (fun _ h9 => h9) rfl hin rfl (by decide +kernel) rfl rfl (Nat.le_of_ble_eq_true rfl) dX1_init_81 (fun H locs hP hD hS => ?_)
  have hP : va_P (dC, dI) vwCl [(h0, .inr (1, [.int 0, .int 0, .int 0, .int 0, .int 0, .int 0, .ref q7, .ref q15, .ref q23, .ref q31, .int 0, .ref q39, .ref q48, .ref q56, .ref q64, .ref q71, .ref q79])), (q7, .inl (k7, 8, .inl (fun _ => 0))), (q15, .inl (k15, 8, .inl (fun _ => 0))), (q23, .inl (k23, 8, .inl (fun _ => 0))), (q31, .inl (k31, 12, .inl (fun _ => 0))), (q39, .inl (k39, 12, .inl (fun _ => 0))), (q48, .inl (k48, 360, .inl (fun _ => 0))), (q56, .inl (k56, 27, .inl (fun _ => 0))), (q64, .inl (k64, 27, .inl (fun _ => 0))), (q71, .inl (k71, 3, .inl (fun _ => 0))), (q79, .inl (k79, 8, .inl (fun _ => 0)))] H := hP
  have hD : va_D A [(h0, .inr (1, [.int 0, .int 0, .int 0, .int 0, .int 0, .int 0, .ref q7, .ref q15, .ref q23, .ref q31, .int 0, .ref q39, .ref q48, .ref q56, .ref q64, .ref q71, .ref q79])), (q7, .inl (k7, 8, .inl (fun _ => 0))), (q15, .inl (k15, 8, .inl (fun _ => 0))), (q23, .inl (k23, 8, .inl (fun _ => 0))), (q31, .inl (k31, 12, .inl (fun _ => 0))), (q39, .inl (k39, 12, .inl (fun _ => 0))), (q48, .inl (k48, 360, .inl (fun _ => 0))), (q56, .inl (k56, 27, .inl (fun _ => 0))), (q64, .inl (k64, 27, .inl (fun _ => 0))), (q71, .inl (k71, 3, .inl (fun _ => 0))), (q79, .inl (k79, 8, .inl (fun _ => 0)))] := hD
  refine W.widen (k := 10) (n := 473) (by decide +kernel) (by decide +kernel) ?_
  exact W.vret hx hb hr (fun t ht hW => ⟨⟨((fun n => [q7, q15, q23, q31, q39, q48, q56, q64, q71, q79].getD n 0), (fun n => [k7, k15, k23, k31, k39, k48, k56, k64, k71, k79].getD n k7)), rfl, trivial, by rw [ht]; exact hP, va_K.moved hW.alike hK, hD⟩, hS.F ht⟩) hS.2.2 dX1_init_84
end
section
def wsX11_init_r1 : List Cond := [Cond.methodLink RX11 1 objectInit, Cond.instanceMethod objectInit, Cond.code objectInit ⟨#[0xb1]⟩ 1 none, Cond.arrayClass .int, Cond.fieldLink RX11 9 "OptimaWorks" "ready" "[I", Cond.classLink RX11 13 RX9, Cond.instantiable RX9 9, Cond.initialized RX9, Cond.fieldLink RX11 16 "OptimaWorks" "words" "LOptimaWorks$Words;", Cond.classLink RX11 20 RX1, Cond.instantiable RX1 17, Cond.initialized RX1, Cond.fieldLink RX11 23 "OptimaWorks" "model" "LOptimaWorks$Model;", Cond.arrayClass .byte, Cond.fieldLink RX11 27 "OptimaWorks" "sheet" "[B", Cond.instanceMethod yX9_init, Cond.code yX9_init cX9_init 1 none, Cond.methodLink RX9 3 objectInit, Cond.fieldLink RX9 9 "OptimaWorks$Words" "tape" "[B", Cond.fieldLink RX9 15 "OptimaWorks$Words" "place" "I", Cond.instanceMethod yX1_init, Cond.code yX1_init cX1_init 1 none, Cond.methodLink RX1 3 objectInit, Cond.fieldLink RX1 9 "OptimaWorks$Model" "from" "[I"]
def wsX11_init_r2 : List Cond := [Cond.fieldLink RX1 13 "OptimaWorks$Model" "to" "[I", Cond.arrayClass .boolean, Cond.fieldLink RX1 16 "OptimaWorks$Model" "whole" "[Z", Cond.fieldLink RX1 20 "OptimaWorks$Model" "ways" "[I", Cond.fieldLink RX1 23 "OptimaWorks$Model" "plainRow" "[I", Cond.fieldLink RX1 26 "OptimaWorks$Model" "kept" "[I", Cond.fieldLink RX1 29 "OptimaWorks$Model" "goalOver" "[I", Cond.fieldLink RX1 32 "OptimaWorks$Model" "goalUnder" "[I", Cond.fieldLink RX1 35 "OptimaWorks$Model" "goalMax" "[Z", Cond.fieldLink RX1 38 "OptimaWorks$Model" "different" "[I"]
def wsX11_init : List Cond := .code yX11_init cX11_init 1 none :: ((wsX11_init_r1 ++ wsX11_init_r2) ++ wsX110 ++ wsX90 ++ wsX10)
set_option maxRecDepth 20000 in
theorem ggX11_init_X9_init : GoodIn wsX11_init wsX9_init := goodIn_r _ [17, 18, 2, 3, 14, 19, 20, 46, 47, 48, 49, 50, 51, 52, 53, 54] (by decide +kernel) (by decide +kernel)
set_option maxRecDepth 20000 in
theorem gX11_init_X9_init_n15 : GoodIn wsX11_init (wsX9_init) := ggX11_init_X9_init
set_option maxRecDepth 20000 in
theorem ggX11_init_X1_init : GoodIn wsX11_init wsX1_init := goodIn_r _ [22, 23, 2, 3, 4, 24, 25, 26, 27, 28, 29, 30, 31, 32, 33, 34, 55, 56, 57, 58, 59, 60, 61, 62, 63, 64, 65, 66, 67, 68, 69, 70, 71] (by decide +kernel) (by decide +kernel)
set_option maxRecDepth 20000 in
theorem gX11_init_X1_init_n22 : GoodIn wsX11_init (wsX1_init) := ggX11_init_X1_init
def wX11 (a : Nat → Nat) (k : Nat → ClassId) (h0 : Nat) : va_W := [(h0, .inr (11, [.ref (a 0), .ref (a 1), .ref (a 3), .ref (a 14), .int 0, .null, .null, .null, .null, .null, .null])), ((a 0), .inl ((k 0), 5, .inl (fun _ => 0))), ((a 1), .inr (9, [.ref (a 2), .int 0, .int 0, .int (-1), .int 0, .int 0, .int 0, .long 0, .int 0])), ((a 2), .inl ((k 1), 64, .inl (fun _ => 0))), ((a 3), .inr (1, [.int 0, .int 0, .int 0, .int 0, .int 0, .int 0, .ref (a 4), .ref (a 5), .ref (a 6), .ref (a 7), .int 0, .ref (a 8), .ref (a 9), .ref (a 10), .ref (a 11), .ref (a 12), .ref (a 13)])), ((a 4), .inl ((k 2), 8, .inl (fun _ => 0))), ((a 5), .inl ((k 3), 8, .inl (fun _ => 0))), ((a 6), .inl ((k 4), 8, .inl (fun _ => 0))), ((a 7), .inl ((k 5), 12, .inl (fun _ => 0))), ((a 8), .inl ((k 6), 12, .inl (fun _ => 0))), ((a 9), .inl ((k 7), 360, .inl (fun _ => 0))), ((a 10), .inl ((k 8), 27, .inl (fun _ => 0))), ((a 11), .inl ((k 9), 27, .inl (fun _ => 0))), ((a 12), .inl ((k 10), 3, .inl (fun _ => 0))), ((a 13), .inl ((k 11), 8, .inl (fun _ => 0))), ((a 14), .inl ((k 12), 64, .inl (fun _ => 0)))]
def tX11 (k : Nat → ClassId) : List (ClassId × FieldType) := [((k 0), .int), ((k 1), .byte), ((k 2), .int), ((k 3), .int), ((k 4), .boolean), ((k 5), .int), ((k 6), .int), ((k 7), .int), ((k 8), .int), ((k 9), .int), ((k 10), .boolean), ((k 11), .int), ((k 12), .byte)]
theorem dX11_init_0 : decode cX11_init 0 = .ok (.aload_n 0, 1) := by decide +kernel
theorem dX11_init_1 : decode cX11_init 1 = .ok (.invokespecial 1, 3) := by decide +kernel
theorem dX11_init_4 : decode cX11_init 4 = .ok (.aload_n 0, 1) := by decide +kernel
theorem dX11_init_5 : decode cX11_init 5 = .ok (.iconst 5, 1) := by decide +kernel
theorem dX11_init_6 : decode cX11_init 6 = .ok (.newarray .int, 2) := by decide +kernel
theorem dX11_init_8 : decode cX11_init 8 = .ok (.putfield 9, 3) := by decide +kernel
theorem dX11_init_11 : decode cX11_init 11 = .ok (.aload_n 0, 1) := by decide +kernel
theorem dX11_init_12 : decode cX11_init 12 = .ok (.new 13, 3) := by decide +kernel
theorem dX11_init_15 : decode cX11_init 15 = .ok (.dup, 1) := by decide +kernel
theorem dX11_init_16 : decode cX11_init 16 = .ok (.invokespecial 15, 3) := by decide +kernel
theorem dX11_init_19 : decode cX11_init 19 = .ok (.putfield 16, 3) := by decide +kernel
theorem dX11_init_22 : decode cX11_init 22 = .ok (.aload_n 0, 1) := by decide +kernel
theorem dX11_init_23 : decode cX11_init 23 = .ok (.new 20, 3) := by decide +kernel
theorem dX11_init_26 : decode cX11_init 26 = .ok (.dup, 1) := by decide +kernel
theorem dX11_init_27 : decode cX11_init 27 = .ok (.invokespecial 22, 3) := by decide +kernel
theorem dX11_init_30 : decode cX11_init 30 = .ok (.putfield 23, 3) := by decide +kernel
theorem dX11_init_33 : decode cX11_init 33 = .ok (.aload_n 0, 1) := by decide +kernel
theorem dX11_init_34 : decode cX11_init 34 = .ok (.bipush 64, 2) := by decide +kernel
theorem dX11_init_36 : decode cX11_init 36 = .ok (.newarray .byte, 2) := by decide +kernel
theorem dX11_init_38 : decode cX11_init 38 = .ok (.putfield 27, 3) := by decide +kernel
theorem dX11_init_41 : decode cX11_init 41 = .ok (.return_, 1) := by decide +kernel
theorem iX11_init_in1 : ∀ w ∈ wsX10, w ∈ wsX11_init := fun _ h => List.mem_cons_of_mem _ (List.mem_append_right _ h)
theorem iX11_init_in9 : ∀ w ∈ wsX90, w ∈ wsX11_init := fun _ h => List.mem_cons_of_mem _ (List.mem_append_left _ (List.mem_append_right _ h))
theorem iX11_init_in11 : ∀ w ∈ wsX110, w ∈ wsX11_init := fun _ h => List.mem_cons_of_mem _ (List.mem_append_left _ (List.mem_append_left _ (List.mem_append_right _ h)))
set_option maxHeartbeats 4000000 in
set_option maxRecDepth 100000 in
/-- OptimaWorks(): ready bytes, words, an empty model, a sheet -/
theorem c_X11_init (l : Launch) (dC : Nat → ClassId) (dI : Nat → Nat → Nat) (h0 : Nat) (sz : Nat) : Met l yX11_init wsX11_init ({ frames := 2, cells := 15, slots := 632, locals := 32 }) (va_Pc [.ref h0] (fun U => U.heap.size = sz ∧ va_P (dC, dI) vwCl [(h0, .inr (11, [.null, .null, .null, .null, .int 0, .null, .null, .null, .null, .null, .null]))] U.heap ∧ va_K (dC, dI) vwCl [] U ∧ va_D (fun _ => True) [(h0, .inr (11, [.null, .null, .null, .null, .int 0, .null, .null, .null, .null, .null, .null]))] ∧ va_Nw (.methodLinkNest RX11 15 yX9_init RX11) U ∧ va_Nw (.methodLinkNest RX11 22 yX1_init RX11) U)) (va_Qv (fun _ : (Nat → Nat) × (Nat → ClassId) => True) (fun u t => va_P (dC, dI) vwCl (wX11 u.1 u.2 h0) t.heap ∧ va_K (dC, dI) vwCl (tX11 u.2) t ∧ va_D (va_A [(h0, .inr (11, [.null, .null, .null, .null, .int 0, .null, .null, .null, .null, .null, .null]))] sz) (wX11 u.1 u.2 h0)) (va_A [(h0, .inr (11, [.null, .null, .null, .null, .int 0, .null, .null, .null, .null, .null, .null]))] sz)) 15 632 (va_A [(h0, .inr (11, [.null, .null, .null, .null, .int 0, .null, .null, .null, .null, .null, .null]))] sz) := by
  refine Met.ofW (cc := cX11_init) (maxL := 1) (ret := none) (by decide) rfl ?_
  intro p e s m args below meth c s₁ B hml hv
  obtain ⟨rfl, hsz, hP, hK, hD0, hn15, hn22⟩ := hv
  have hx := B.exec
  have hb := B.bytes
  have hr := B.returns
  have hts := atoms_spec (ws := wsX11_init) B.pre
  have hown : s.vm.findClass RX11 = some m.cls := findClass_of_methodNamed B.named
  have hlocks := B.notSynchronized
  have hin : meth.name = "<init>" := (name_of_methodNamed B.named B.method).1
  subst hsz
  have hD := hD0.self (sz := s.heap.size)
  generalize hAe : va_A [(h0, .inr (11, [.null, .null, .null, .null, .int 0, .null, .null, .null, .null, .null, .null]))] s.heap.size = A at hD ⊢
  have hA : ∀ q : Nat, s.heap.size ≤ q → A q := fun q h => by rw [← hAe]; exact Or.inr h
  have hS : va_S A s.heap s.heap [] := va_S.rf
  have hP : va_P (dC, dI) vwCl [(h0, .inr (11, [.null, .null, .null, .null, .int 0, .null, .null, .null, .null, .null, .null]))] s.heap := hP
  have hl := lv_entry ([.ref h0]) (n := 1) (Nat.le_of_ble_eq_true rfl)
  rw [lg_entry_eq]
  generalize (lg_sl ([.ref h0]) ++ List.replicate (1 - (lg_sl ([.ref h0])).length) Slot.unset).toArray = ls at hl ⊢
  have hl : lv_has ls 1 [(0, .ref h0)] := hl
  refine lv_aload_n hx hb dX11_init_0 rfl (lv_at hl 0 rfl) ?_
  refine W.objInit hx hb hown (hts (.methodLink RX11 1 objectInit) (by decide +kernel)) (hts (.instanceMethod objectInit) (by decide +kernel)) (hts (.code objectInit ⟨#[0xb1]⟩ 1 none) (by decide +kernel)) rfl (by rw [hml]; exact hl.1) rfl dX11_init_1 (by decide +kernel) (Nat.le_of_ble_eq_true rfl) ?_
  refine W.eq (g2 := F0 m 4 ls []) rfl ?_
  refine lv_aload_n hx hb dX11_init_4 rfl (lv_at hl 0 rfl) ?_
  refine lv_iconst (v := 5) hx hb dX11_init_5 (by decide) ?_
  refine va_newa (atype := .int) (ty := .int) (N' := 5) (a0 := (5, .inl (fun _ => 0))) hx hb (hts (.arrayClass .int) (by decide +kernel)) rfl hK hP hD hS hA (fun _ => rfl) (by decide) (by decide) (by decide +kernel) (by decide +kernel) (by decide +kernel) dX11_init_6 (fun q6 k6 H hK hP hD hS => ?_)
  have hP : va_P (dC, dI) vwCl [(h0, .inr (11, [.null, .null, .null, .null, .int 0, .null, .null, .null, .null, .null, .null])), (q6, .inl (k6, 5, .inl (fun _ => 0)))] H := hP
  have hD : va_D A [(h0, .inr (11, [.null, .null, .null, .null, .int 0, .null, .null, .null, .null, .null, .null])), (q6, .inl (k6, 5, .inl (fun _ => 0)))] := hD
  have hK : va_K (dC, dI) vwCl [(k6, .int)] s := hK
  refine W.widen (k := 1) (n := 5) (by decide +kernel) (by decide +kernel) ?_
  refine va_putF (D := (dC, dI)) (ci := 11) (v := .ref q6) (ty := .array .int) (C := RX11) (T := TX11) (N := 11) hx hb hts iX11_init_in11 tyX11 tyX11_ok nmX11 hown hK hP hD hS 0 rfl rfl 0 (by decide) (hts (.fieldLink RX11 9 "OptimaWorks" "ready" "[I") (by decide +kernel)) (fun _ h9 => h9) rfl hin rfl (by decide +kernel) rfl rfl (Nat.le_of_ble_eq_true rfl) dX11_init_8 (fun H locs hP hD hS => ?_)
  have hP : va_P (dC, dI) vwCl [(h0, .inr (11, [.ref q6, .null, .null, .null, .int 0, .null, .null, .null, .null, .null, .null])), (q6, .inl (k6, 5, .inl (fun _ => 0)))] H := hP
  have hD : va_D A [(h0, .inr (11, [.ref q6, .null, .null, .null, .int 0, .null, .null, .null, .null, .null, .null])), (q6, .inl (k6, 5, .inl (fun _ => 0)))] := hD
  refine lv_aload_n hx hb dX11_init_11 rfl (lv_at hl 0 rfl) ?_
  refine va_new (ci := 9) (fs := [.null, .int 0, .int 0, .int 0, .int 0, .int 0, .int 0, .long 0, .int 0]) (C := RX9) (T := TX9) (N := 9) hx hb hts iX11_init_in9 tyX9 tyX9_ok hown (hts (.classLink RX11 13 RX9) (by decide +kernel)) (hts (.instantiable RX9 9) (by decide +kernel)) (hts (.initialized RX9) (by decide +kernel)) hK hP hD hS hA rfl (by decide +kernel) (by decide +kernel) (by decide +kernel) dX11_init_12 (fun q12 H hP hD hS => ?_)
  have hP : va_P (dC, dI) vwCl [(h0, .inr (11, [.ref q6, .null, .null, .null, .int 0, .null, .null, .null, .null, .null, .null])), (q6, .inl (k6, 5, .inl (fun _ => 0))), (q12, .inr (9, [.null, .int 0, .int 0, .int 0, .int 0, .int 0, .int 0, .long 0, .int 0]))] H := hP
  have hD : va_D A [(h0, .inr (11, [.ref q6, .null, .null, .null, .int 0, .null, .null, .null, .null, .null, .null])), (q6, .inl (k6, 5, .inl (fun _ => 0))), (q12, .inr (9, [.null, .int 0, .int 0, .int 0, .int 0, .int 0, .int 0, .long 0, .int 0]))] := hD
  refine W.widen (k := 2) (n := 14) (by decide +kernel) (by decide +kernel) ?_
  refine lv_dup hx hb dX11_init_15 rfl ?_
  have hPc := hP.sub (ws' := [(q12, .inr (9, [.null, .int 0, .int 0, .int 0, .int 0, .int 0, .int 0, .long 0, .int 0]))]) [2] rfl
  have hDc := hD.sub (ws' := [(q12, .inr (9, [.null, .int 0, .int 0, .int 0, .int 0, .int 0, .int 0, .long 0, .int 0]))]) [2] (by decide) rfl
  have hKc := hK.sub (tys' := []) [] rfl
  have hFc := va_free (wc := [(q12, .inr (9, [.null, .int 0, .int 0, .int 0, .int 0, .int 0, .int 0, .long 0, .int 0]))]) hD hS hA [2] rfl
  refine va_callv (va_runIN (As := []) (rest := [.ref q12, .ref h0]) ⟨hx, hb, hml, hown, hts⟩ (c_X9_init l dC dI q12 H.size) ⟨va_cnB 0 hts gX11_init_X9_init_n15 rfl rfl rfl hn15 (hts (.initialized RX9) (by decide +kernel)) (by decide +kernel) ⟨by decide +kernel, by decide +kernel⟩, rfl, (hts (.instanceMethod yX9_init) (by decide +kernel))⟩ ⟨fun a U g mk q => by obtain ⟨q0, q1, qP, qK, qD⟩ := q; exact ⟨q0, q1, qP, va_K.moved (u := U) (U := U.calling g mk a) (Vm.Alike.refl U.vm) qK, qD⟩, fun U hU hW => ⟨rfl, by rw [hU], by rw [hU]; exact hPc, va_K.moved hW.alike hKc, hDc.weaken (fun _ _ _ _ => trivial)⟩⟩ rfl rfl hl.1 rfl (lv_room (Nat.le_of_ble_eq_true rfl)) dX11_init_16 ⟨by decide +kernel, by decide +kernel⟩) hS (fun q _ h => hFc q h) hFc (fun u t H1 locs ht hvm hw hB hz1 hk1 hS => ?_)
  obtain ⟨a16, k16⟩ := u
  obtain ⟨hP1, hK1, hD1⟩ := hB
  rw [ht] at hP1
  have hK1 := va_K.moved hvm.symm hK1
  try dsimp only at hw
  obtain ⟨hP, hD⟩ := va_join (wr := [(h0, .inr (11, [.ref q6, .null, .null, .null, .int 0, .null, .null, .null, .null, .null, .null])), (q6, .inl (k6, 5, .inl (fun _ => 0)))]) (w1 := [(q12, .inr (9, [.ref (a16 0), .int 0, .int 0, .int (-1), .int 0, .int 0, .int 0, .long 0, .int 0])), ((a16 0), .inl ((k16 0), 64, .inl (fun _ => 0)))]) hP hD [2] [0, 1] rfl rfl (by decide) (by decide) hk1 hFc hP1 hD1
  have hK := hK.app hK1
  generalize H1 = H at hP hS ⊢
  have hP : va_P (dC, dI) vwCl [(h0, .inr (11, [.ref q6, .null, .null, .null, .int 0, .null, .null, .null, .null, .null, .null])), (q6, .inl (k6, 5, .inl (fun _ => 0))), (q12, .inr (9, [.ref (a16 0), .int 0, .int 0, .int (-1), .int 0, .int 0, .int 0, .long 0, .int 0])), ((a16 0), .inl ((k16 0), 64, .inl (fun _ => 0)))] H := hP
  have hD : va_D A [(h0, .inr (11, [.ref q6, .null, .null, .null, .int 0, .null, .null, .null, .null, .null, .null])), (q6, .inl (k6, 5, .inl (fun _ => 0))), (q12, .inr (9, [.ref (a16 0), .int 0, .int 0, .int (-1), .int 0, .int 0, .int 0, .long 0, .int 0])), ((a16 0), .inl ((k16 0), 64, .inl (fun _ => 0)))] := hD
  have hK : va_K (dC, dI) vwCl [(k6, .int), ((k16 0), .byte)] s := hK
  refine W.widen (k := 3) (n := 78) (by decide +kernel) (by decide +kernel) ?_
  refine va_putF (D := (dC, dI)) (ci := 11) (v := .ref q12) (ty := .object "OptimaWorks$Words") (C := RX11) (T := TX11) (N := 11) hx hb hts iX11_init_in11 tyX11 tyX11_ok nmX11 hown hK hP hD hS 0 rfl rfl 1 (by decide) (hts (.fieldLink RX11 16 "OptimaWorks" "words" "LOptimaWorks$Words;") (by decide +kernel)) (fun _ h9 => h9) rfl hin rfl (by decide +kernel) rfl rfl (Nat.le_of_ble_eq_true rfl) dX11_init_19 (fun H locs hP hD hS => ?_)
  have hP : va_P (dC, dI) vwCl [(h0, .inr (11, [.ref q6, .ref q12, .null, .null, .int 0, .null, .null, .null, .null, .null, .null])), (q6, .inl (k6, 5, .inl (fun _ => 0))), (q12, .inr (9, [.ref (a16 0), .int 0, .int 0, .int (-1), .int 0, .int 0, .int 0, .long 0, .int 0])), ((a16 0), .inl ((k16 0), 64, .inl (fun _ => 0)))] H := hP
  have hD : va_D A [(h0, .inr (11, [.ref q6, .ref q12, .null, .null, .int 0, .null, .null, .null, .null, .null, .null])), (q6, .inl (k6, 5, .inl (fun _ => 0))), (q12, .inr (9, [.ref (a16 0), .int 0, .int 0, .int (-1), .int 0, .int 0, .int 0, .long 0, .int 0])), ((a16 0), .inl ((k16 0), 64, .inl (fun _ => 0)))] := hD
  refine lv_aload_n hx hb dX11_init_22 rfl (lv_at hl 0 rfl) ?_
  refine va_new (ci := 1) (fs := [.int 0, .int 0, .int 0, .int 0, .int 0, .int 0, .null, .null, .null, .null, .int 0, .null, .null, .null, .null, .null, .null]) (C := RX1) (T := TX1) (N := 17) hx hb hts iX11_init_in1 tyX1 tyX1_ok hown (hts (.classLink RX11 20 RX1) (by decide +kernel)) (hts (.instantiable RX1 17) (by decide +kernel)) (hts (.initialized RX1) (by decide +kernel)) hK hP hD hS hA rfl (by decide +kernel) (by decide +kernel) (by decide +kernel) dX11_init_23 (fun q23 H hP hD hS => ?_)
  have hP : va_P (dC, dI) vwCl [(h0, .inr (11, [.ref q6, .ref q12, .null, .null, .int 0, .null, .null, .null, .null, .null, .null])), (q6, .inl (k6, 5, .inl (fun _ => 0))), (q12, .inr (9, [.ref (a16 0), .int 0, .int 0, .int (-1), .int 0, .int 0, .int 0, .long 0, .int 0])), ((a16 0), .inl ((k16 0), 64, .inl (fun _ => 0))), (q23, .inr (1, [.int 0, .int 0, .int 0, .int 0, .int 0, .int 0, .null, .null, .null, .null, .int 0, .null, .null, .null, .null, .null, .null]))] H := hP
  have hD : va_D A [(h0, .inr (11, [.ref q6, .ref q12, .null, .null, .int 0, .null, .null, .null, .null, .null, .null])), (q6, .inl (k6, 5, .inl (fun _ => 0))), (q12, .inr (9, [.ref (a16 0), .int 0, .int 0, .int (-1), .int 0, .int 0, .int 0, .long 0, .int 0])), ((a16 0), .inl ((k16 0), 64, .inl (fun _ => 0))), (q23, .inr (1, [.int 0, .int 0, .int 0, .int 0, .int 0, .int 0, .null, .null, .null, .null, .int 0, .null, .null, .null, .null, .null, .null]))] := hD
  refine W.widen (k := 4) (n := 95) (by decide +kernel) (by decide +kernel) ?_
  refine lv_dup hx hb dX11_init_26 rfl ?_
  have hPc := hP.sub (ws' := [(q23, .inr (1, [.int 0, .int 0, .int 0, .int 0, .int 0, .int 0, .null, .null, .null, .null, .int 0, .null, .null, .null, .null, .null, .null]))]) [4] rfl
  have hDc := hD.sub (ws' := [(q23, .inr (1, [.int 0, .int 0, .int 0, .int 0, .int 0, .int 0, .null, .null, .null, .null, .int 0, .null, .null, .null, .null, .null, .null]))]) [4] (by decide) rfl
  have hKc := hK.sub (tys' := []) [] rfl
  have hFc := va_free (wc := [(q23, .inr (1, [.int 0, .int 0, .int 0, .int 0, .int 0, .int 0, .null, .null, .null, .null, .int 0, .null, .null, .null, .null, .null, .null]))]) hD hS hA [4] rfl
  refine va_callv (va_runIN (As := []) (rest := [.ref q23, .ref h0]) ⟨hx, hb, hml, hown, hts⟩ (c_X1_init l dC dI q23 H.size) ⟨va_cnB 0 hts gX11_init_X1_init_n22 rfl rfl rfl hn22 (hts (.initialized RX1) (by decide +kernel)) (by decide +kernel) ⟨by decide +kernel, by decide +kernel⟩, rfl, (hts (.instanceMethod yX1_init) (by decide +kernel))⟩ ⟨fun a U g mk q => by obtain ⟨q0, q1, qP, qK, qD⟩ := q; exact ⟨q0, q1, qP, va_K.moved (u := U) (U := U.calling g mk a) (Vm.Alike.refl U.vm) qK, qD⟩, fun U hU hW => ⟨rfl, by rw [hU], by rw [hU]; exact hPc, va_K.moved hW.alike hKc, hDc.weaken (fun _ _ _ _ => trivial)⟩⟩ rfl rfl hl.1 rfl (lv_room (Nat.le_of_ble_eq_true rfl)) dX11_init_27 ⟨by decide +kernel, by decide +kernel⟩) hS (fun q _ h => hFc q h) hFc (fun u t H1 locs ht hvm hw hB hz1 hk1 hS => ?_)
  obtain ⟨a27, k27⟩ := u
  obtain ⟨hP1, hK1, hD1⟩ := hB
  rw [ht] at hP1
  have hK1 := va_K.moved hvm.symm hK1
  try dsimp only at hw
  obtain ⟨hP, hD⟩ := va_join (wr := [(h0, .inr (11, [.ref q6, .ref q12, .null, .null, .int 0, .null, .null, .null, .null, .null, .null])), (q6, .inl (k6, 5, .inl (fun _ => 0))), (q12, .inr (9, [.ref (a16 0), .int 0, .int 0, .int (-1), .int 0, .int 0, .int 0, .long 0, .int 0])), ((a16 0), .inl ((k16 0), 64, .inl (fun _ => 0)))]) (w1 := [(q23, .inr (1, [.int 0, .int 0, .int 0, .int 0, .int 0, .int 0, .ref (a27 0), .ref (a27 1), .ref (a27 2), .ref (a27 3), .int 0, .ref (a27 4), .ref (a27 5), .ref (a27 6), .ref (a27 7), .ref (a27 8), .ref (a27 9)])), ((a27 0), .inl ((k27 0), 8, .inl (fun _ => 0))), ((a27 1), .inl ((k27 1), 8, .inl (fun _ => 0))), ((a27 2), .inl ((k27 2), 8, .inl (fun _ => 0))), ((a27 3), .inl ((k27 3), 12, .inl (fun _ => 0))), ((a27 4), .inl ((k27 4), 12, .inl (fun _ => 0))), ((a27 5), .inl ((k27 5), 360, .inl (fun _ => 0))), ((a27 6), .inl ((k27 6), 27, .inl (fun _ => 0))), ((a27 7), .inl ((k27 7), 27, .inl (fun _ => 0))), ((a27 8), .inl ((k27 8), 3, .inl (fun _ => 0))), ((a27 9), .inl ((k27 9), 8, .inl (fun _ => 0)))]) hP hD [4] [0, 1, 2, 3] rfl rfl (by decide) (by decide) hk1 hFc hP1 hD1
  have hK := hK.app hK1
  generalize H1 = H at hP hS ⊢
  have hP : va_P (dC, dI) vwCl [(h0, .inr (11, [.ref q6, .ref q12, .null, .null, .int 0, .null, .null, .null, .null, .null, .null])), (q6, .inl (k6, 5, .inl (fun _ => 0))), (q12, .inr (9, [.ref (a16 0), .int 0, .int 0, .int (-1), .int 0, .int 0, .int 0, .long 0, .int 0])), ((a16 0), .inl ((k16 0), 64, .inl (fun _ => 0))), (q23, .inr (1, [.int 0, .int 0, .int 0, .int 0, .int 0, .int 0, .ref (a27 0), .ref (a27 1), .ref (a27 2), .ref (a27 3), .int 0, .ref (a27 4), .ref (a27 5), .ref (a27 6), .ref (a27 7), .ref (a27 8), .ref (a27 9)])), ((a27 0), .inl ((k27 0), 8, .inl (fun _ => 0))), ((a27 1), .inl ((k27 1), 8, .inl (fun _ => 0))), ((a27 2), .inl ((k27 2), 8, .inl (fun _ => 0))), ((a27 3), .inl ((k27 3), 12, .inl (fun _ => 0))), ((a27 4), .inl ((k27 4), 12, .inl (fun _ => 0))), ((a27 5), .inl ((k27 5), 360, .inl (fun _ => 0))), ((a27 6), .inl ((k27 6), 27, .inl (fun _ => 0))), ((a27 7), .inl ((k27 7), 27, .inl (fun _ => 0))), ((a27 8), .inl ((k27 8), 3, .inl (fun _ => 0))), ((a27 9), .inl ((k27 9), 8, .inl (fun _ => 0)))] H := hP
  have hD : va_D A [(h0, .inr (11, [.ref q6, .ref q12, .null, .null, .int 0, .null, .null, .null, .null, .null, .null])), (q6, .inl (k6, 5, .inl (fun _ => 0))), (q12, .inr (9, [.ref (a16 0), .int 0, .int 0, .int (-1), .int 0, .int 0, .int 0, .long 0, .int 0])), ((a16 0), .inl ((k16 0), 64, .inl (fun _ => 0))), (q23, .inr (1, [.int 0, .int 0, .int 0, .int 0, .int 0, .int 0, .ref (a27 0), .ref (a27 1), .ref (a27 2), .ref (a27 3), .int 0, .ref (a27 4), .ref (a27 5), .ref (a27 6), .ref (a27 7), .ref (a27 8), .ref (a27 9)])), ((a27 0), .inl ((k27 0), 8, .inl (fun _ => 0))), ((a27 1), .inl ((k27 1), 8, .inl (fun _ => 0))), ((a27 2), .inl ((k27 2), 8, .inl (fun _ => 0))), ((a27 3), .inl ((k27 3), 12, .inl (fun _ => 0))), ((a27 4), .inl ((k27 4), 12, .inl (fun _ => 0))), ((a27 5), .inl ((k27 5), 360, .inl (fun _ => 0))), ((a27 6), .inl ((k27 6), 27, .inl (fun _ => 0))), ((a27 7), .inl ((k27 7), 27, .inl (fun _ => 0))), ((a27 8), .inl ((k27 8), 3, .inl (fun _ => 0))), ((a27 9), .inl ((k27 9), 8, .inl (fun _ => 0)))] := hD
  have hK : va_K (dC, dI) vwCl [(k6, .int), ((k16 0), .byte), ((k27 0), .int), ((k27 1), .int), ((k27 2), .boolean), ((k27 3), .int), ((k27 4), .int), ((k27 5), .int), ((k27 6), .int), ((k27 7), .int), ((k27 8), .boolean), ((k27 9), .int)] s := hK
  refine W.widen (k := 14) (n := 568) (by decide +kernel) (by decide +kernel) ?_
  refine va_putF (D := (dC, dI)) (ci := 11) (v := .ref q23) (ty := .object "OptimaWorks$Model") (C := RX11) (T := TX11) (N := 11) hx hb hts iX11_init_in11 tyX11 tyX11_ok nmX11 hown hK hP hD hS 0 rfl rfl 2 (by decide) (hts (.fieldLink RX11 23 "OptimaWorks" "model" "LOptimaWorks$Model;") (by decide +kernel)) (fun _ h9 => h9) rfl hin rfl (by decide +kernel) rfl rfl (Nat.le_of_ble_eq_true rfl) dX11_init_30 (fun H locs hP hD hS => ?_)
  have hP : va_P (dC, dI) vwCl [(h0, .inr (11, [.ref q6, .ref q12, .ref q23, .null, .int 0, .null, .null, .null, .null, .null, .null])), (q6, .inl (k6, 5, .inl (fun _ => 0))), (q12, .inr (9, [.ref (a16 0), .int 0, .int 0, .int (-1), .int 0, .int 0, .int 0, .long 0, .int 0])), ((a16 0), .inl ((k16 0), 64, .inl (fun _ => 0))), (q23, .inr (1, [.int 0, .int 0, .int 0, .int 0, .int 0, .int 0, .ref (a27 0), .ref (a27 1), .ref (a27 2), .ref (a27 3), .int 0, .ref (a27 4), .ref (a27 5), .ref (a27 6), .ref (a27 7), .ref (a27 8), .ref (a27 9)])), ((a27 0), .inl ((k27 0), 8, .inl (fun _ => 0))), ((a27 1), .inl ((k27 1), 8, .inl (fun _ => 0))), ((a27 2), .inl ((k27 2), 8, .inl (fun _ => 0))), ((a27 3), .inl ((k27 3), 12, .inl (fun _ => 0))), ((a27 4), .inl ((k27 4), 12, .inl (fun _ => 0))), ((a27 5), .inl ((k27 5), 360, .inl (fun _ => 0))), ((a27 6), .inl ((k27 6), 27, .inl (fun _ => 0))), ((a27 7), .inl ((k27 7), 27, .inl (fun _ => 0))), ((a27 8), .inl ((k27 8), 3, .inl (fun _ => 0))), ((a27 9), .inl ((k27 9), 8, .inl (fun _ => 0)))] H := hP
  have hD : va_D A [(h0, .inr (11, [.ref q6, .ref q12, .ref q23, .null, .int 0, .null, .null, .null, .null, .null, .null])), (q6, .inl (k6, 5, .inl (fun _ => 0))), (q12, .inr (9, [.ref (a16 0), .int 0, .int 0, .int (-1), .int 0, .int 0, .int 0, .long 0, .int 0])), ((a16 0), .inl ((k16 0), 64, .inl (fun _ => 0))), (q23, .inr (1, [.int 0, .int 0, .int 0, .int 0, .int 0, .int 0, .ref (a27 0), .ref (a27 1), .ref (a27 2), .ref (a27 3), .int 0, .ref (a27 4), .ref (a27 5), .ref (a27 6), .ref (a27 7), .ref (a27 8), .ref (a27 9)])), ((a27 0), .inl ((k27 0), 8, .inl (fun _ => 0))), ((a27 1), .inl ((k27 1), 8, .inl (fun _ => 0))), ((a27 2), .inl ((k27 2), 8, .inl (fun _ => 0))), ((a27 3), .inl ((k27 3), 12, .inl (fun _ => 0))), ((a27 4), .inl ((k27 4), 12, .inl (fun _ => 0))), ((a27 5), .inl ((k27 5), 360, .inl (fun _ => 0))), ((a27 6), .inl ((k27 6), 27, .inl (fun _ => 0))), ((a27 7), .inl ((k27 7), 27, .inl (fun _ => 0))), ((a27 8), .inl ((k27 8), 3, .inl (fun _ => 0))), ((a27 9), .inl ((k27 9), 8, .inl (fun _ => 0)))] := hD
  refine lv_aload_n hx hb dX11_init_33 rfl (lv_at hl 0 rfl) ?_
  refine lv_bipush (v := 64) hx hb dX11_init_34 (by decide) ?_
  refine va_newa (atype := .byte) (ty := .byte) (N' := 64) (a0 := (64, .inl (fun _ => 0))) hx hb (hts (.arrayClass .byte) (by decide +kernel)) rfl hK hP hD hS hA (fun _ => rfl) (by decide) (by decide) (by decide +kernel) (by decide +kernel) (by decide +kernel) dX11_init_36 (fun q36 k36 H hK hP hD hS => ?_)
  have hP : va_P (dC, dI) vwCl [(h0, .inr (11, [.ref q6, .ref q12, .ref q23, .null, .int 0, .null, .null, .null, .null, .null, .null])), (q6, .inl (k6, 5, .inl (fun _ => 0))), (q12, .inr (9, [.ref (a16 0), .int 0, .int 0, .int (-1), .int 0, .int 0, .int 0, .long 0, .int 0])), ((a16 0), .inl ((k16 0), 64, .inl (fun _ => 0))), (q23, .inr (1, [.int 0, .int 0, .int 0, .int 0, .int 0, .int 0, .ref (a27 0), .ref (a27 1), .ref (a27 2), .ref (a27 3), .int 0, .ref (a27 4), .ref (a27 5), .ref (a27 6), .ref (a27 7), .ref (a27 8), .ref (a27 9)])), ((a27 0), .inl ((k27 0), 8, .inl (fun _ => 0))), ((a27 1), .inl ((k27 1), 8, .inl (fun _ => 0))), ((a27 2), .inl ((k27 2), 8, .inl (fun _ => 0))), ((a27 3), .inl ((k27 3), 12, .inl (fun _ => 0))), ((a27 4), .inl ((k27 4), 12, .inl (fun _ => 0))), ((a27 5), .inl ((k27 5), 360, .inl (fun _ => 0))), ((a27 6), .inl ((k27 6), 27, .inl (fun _ => 0))), ((a27 7), .inl ((k27 7), 27, .inl (fun _ => 0))), ((a27 8), .inl ((k27 8), 3, .inl (fun _ => 0))), ((a27 9), .inl ((k27 9), 8, .inl (fun _ => 0))), (q36, .inl (k36, 64, .inl (fun _ => 0)))] H := hP
  have hD : va_D A [(h0, .inr (11, [.ref q6, .ref q12, .ref q23, .null, .int 0, .null, .null, .null, .null, .null, .null])), (q6, .inl (k6, 5, .inl (fun _ => 0))), (q12, .inr (9, [.ref (a16 0), .int 0, .int 0, .int (-1), .int 0, .int 0, .int 0, .long 0, .int 0])), ((a16 0), .inl ((k16 0), 64, .inl (fun _ => 0))), (q23, .inr (1, [.int 0, .int 0, .int 0, .int 0, .int 0, .int 0, .ref (a27 0), .ref (a27 1), .ref (a27 2), .ref (a27 3), .int 0, .ref (a27 4), .ref (a27 5), .ref (a27 6), .ref (a27 7), .ref (a27 8), .ref (a27 9)])), ((a27 0), .inl ((k27 0), 8, .inl (fun _ => 0))), ((a27 1), .inl ((k27 1), 8, .inl (fun _ => 0))), ((a27 2), .inl ((k27 2), 8, .inl (fun _ => 0))), ((a27 3), .inl ((k27 3), 12, .inl (fun _ => 0))), ((a27 4), .inl ((k27 4), 12, .inl (fun _ => 0))), ((a27 5), .inl ((k27 5), 360, .inl (fun _ => 0))), ((a27 6), .inl ((k27 6), 27, .inl (fun _ => 0))), ((a27 7), .inl ((k27 7), 27, .inl (fun _ => 0))), ((a27 8), .inl ((k27 8), 3, .inl (fun _ => 0))), ((a27 9), .inl ((k27 9), 8, .inl (fun _ => 0))), (q36, .inl (k36, 64, .inl (fun _ => 0)))] := hD
  have hK : va_K (dC, dI) vwCl [(k6, .int), ((k16 0), .byte), ((k27 0), .int), ((k27 1), .int), ((k27 2), .boolean), ((k27 3), .int), ((k27 4), .int), ((k27 5), .int), ((k27 6), .int), ((k27 7), .int), ((k27 8), .boolean), ((k27 9), .int), (k36, .byte)] s := hK
  refine W.widen (k := 15) (n := 632) (by decide +kernel) (by decide +kernel) ?_
  refine va_put (D := (dC, dI)) (ci := 11) (v := .ref q36) (ty := .array .byte) (C := RX11) (T := TX11) (N := 11) hx hb hts iX11_init_in11 tyX11 tyX11_ok nmX11 hown hK hP hD hS 0 rfl rfl 3 (by decide) (hts (.fieldLink RX11 27 "OptimaWorks" "sheet" "[B") (by decide +kernel)) (fun _ h9 => h9) rfl (by decide +kernel) rfl rfl (Nat.le_of_ble_eq_true rfl) dX11_init_38 (fun H locs hP hD hS => ?_)
  have hP : va_P (dC, dI) vwCl [(h0, .inr (11, [.ref q6, .ref q12, .ref q23, .ref q36, .int 0, .null, .null, .null, .null, .null, .null])), (q6, .inl (k6, 5, .inl (fun _ => 0))), (q12, .inr (9, [.ref (a16 0), .int 0, .int 0, .int (-1), .int 0, .int 0, .int 0, .long 0, .int 0])), ((a16 0), .inl ((k16 0), 64, .inl (fun _ => 0))), (q23, .inr (1, [.int 0, .int 0, .int 0, .int 0, .int 0, .int 0, .ref (a27 0), .ref (a27 1), .ref (a27 2), .ref (a27 3), .int 0, .ref (a27 4), .ref (a27 5), .ref (a27 6), .ref (a27 7), .ref (a27 8), .ref (a27 9)])), ((a27 0), .inl ((k27 0), 8, .inl (fun _ => 0))), ((a27 1), .inl ((k27 1), 8, .inl (fun _ => 0))), ((a27 2), .inl ((k27 2), 8, .inl (fun _ => 0))), ((a27 3), .inl ((k27 3), 12, .inl (fun _ => 0))), ((a27 4), .inl ((k27 4), 12, .inl (fun _ => 0))), ((a27 5), .inl ((k27 5), 360, .inl (fun _ => 0))), ((a27 6), .inl ((k27 6), 27, .inl (fun _ => 0))), ((a27 7), .inl ((k27 7), 27, .inl (fun _ => 0))), ((a27 8), .inl ((k27 8), 3, .inl (fun _ => 0))), ((a27 9), .inl ((k27 9), 8, .inl (fun _ => 0))), (q36, .inl (k36, 64, .inl (fun _ => 0)))] H := hP
  have hD : va_D A [(h0, .inr (11, [.ref q6, .ref q12, .ref q23, .ref q36, .int 0, .null, .null, .null, .null, .null, .null])), (q6, .inl (k6, 5, .inl (fun _ => 0))), (q12, .inr (9, [.ref (a16 0), .int 0, .int 0, .int (-1), .int 0, .int 0, .int 0, .long 0, .int 0])), ((a16 0), .inl ((k16 0), 64, .inl (fun _ => 0))), (q23, .inr (1, [.int 0, .int 0, .int 0, .int 0, .int 0, .int 0, .ref (a27 0), .ref (a27 1), .ref (a27 2), .ref (a27 3), .int 0, .ref (a27 4), .ref (a27 5), .ref (a27 6), .ref (a27 7), .ref (a27 8), .ref (a27 9)])), ((a27 0), .inl ((k27 0), 8, .inl (fun _ => 0))), ((a27 1), .inl ((k27 1), 8, .inl (fun _ => 0))), ((a27 2), .inl ((k27 2), 8, .inl (fun _ => 0))), ((a27 3), .inl ((k27 3), 12, .inl (fun _ => 0))), ((a27 4), .inl ((k27 4), 12, .inl (fun _ => 0))), ((a27 5), .inl ((k27 5), 360, .inl (fun _ => 0))), ((a27 6), .inl ((k27 6), 27, .inl (fun _ => 0))), ((a27 7), .inl ((k27 7), 27, .inl (fun _ => 0))), ((a27 8), .inl ((k27 8), 3, .inl (fun _ => 0))), ((a27 9), .inl ((k27 9), 8, .inl (fun _ => 0))), (q36, .inl (k36, 64, .inl (fun _ => 0)))] := hD
  refine W.widen (k := 15) (n := 632) (by decide +kernel) (by decide +kernel) ?_
  exact W.vret hx hb hr (fun t ht hW => ⟨⟨((fun n => [q6, q12, (a16 0), q23, (a27 0), (a27 1), (a27 2), (a27 3), (a27 4), (a27 5), (a27 6), (a27 7), (a27 8), (a27 9), q36].getD n 0), (fun n => [k6, (k16 0), (k27 0), (k27 1), (k27 2), (k27 3), (k27 4), (k27 5), (k27 6), (k27 7), (k27 8), (k27 9), k36].getD n k6)), rfl, trivial, by rw [ht]; exact hP, va_K.moved hW.alike hK, hD⟩, hS.F ht⟩) hS.2.2 dX11_init_41
end
section
/-- a function changed at one place -/
def mUp (v : Nat → Value) (k : Nat) (x : Value) : Nat → Value := fun j => cond (Nat.beq j k) x (v j)
/-- the fields of the reference, by a function of their numbers -/
def fM (v : Nat → Value) : List Value := [v 0, v 1, v 2, v 3, v 4, v 5, v 6, v 7, v 8, v 9, v 10, v 11, v 12, v 13, v 14, v 15, v 16, v 17, v 18, v 19, v 20, v 21, v 22, v 23, v 24, v 25, v 26, v 27, v 28, v 29, v 30, v 31, v 32, v 33, v 34, v 35, v 36, v 37, v 38, v 39, v 40, v 41, v 42, v 43, v 44, v 45, v 46, v 47, v 48, v 49, v 50, v 51, v 52, v 53, v 54, v 55, v 56, v 57, v 58, v 59, v 60, v 61, v 62, v 63, v 64, v 65, v 66, v 67, v 68, v 69, v 70, v 71, v 72, v 73, v 74, v 75, v 76, v 77, v 78, v 79, v 80, v 81, v 82, v 83, v 84, v 85, v 86, v 87, v 88, v 89, v 90, v 91, v 92, v 93, v 94, v 95, v 96, v 97, v 98, v 99, v 100, v 101, v 102, v 103, v 104, v 105, v 106, v 107, v 108, v 109, v 110, v 111, v 112, v 113, v 114, v 115, v 116, v 117, v 118, v 119, v 120, v 121, v 122, v 123, v 124, v 125, v 126, v 127, v 128, v 129, v 130, v 131, v 132, v 133, v 134, v 135, v 136, v 137, v 138, v 139, v 140, v 141, v 142, v 143, v 144, v 145, v 146, v 147, v 148, v 149, v 150, v 151, v 152, v 153, v 154, v 155, v 156, v 157, v 158, v 159, v 160, v 161, v 162]
def v0M : Nat → Value := fun k => defaultValue (tyX12 k)
set_option maxRecDepth 20000 in
theorem fM_map (v : Nat → Value) : fM v = (List.range 163).map v := rfl
set_option maxRecDepth 20000 in
theorem fM_len (v : Nat → Value) : (fM v).length = 163 := rfl
set_option maxRecDepth 20000 in
theorem mSet (v : Nat → Value) (k : Nat) (x : Value) : (fM v).set k x = fM (mUp v k x) := by
  rw [fM_map, fM_map]
  apply List.ext_getElem?
  intro i
  rw [List.getElem?_set]
  rcases Nat.lt_or_ge i 163 with hi | hi
  · by_cases hik : k = i
    · subst hik
      simp [hi, mUp]
    · have hki : Nat.beq i k = false := by
        cases h : Nat.beq i k with
        | false => rfl
        | true => exact absurd (Nat.eq_of_beq_eq_true h).symm hik
      simp [hi, hik, mUp, hki]
  · have h1 : ¬ i < 163 := by omega
    simp [h1, hi]
    intro h2
    omega
def arrM : Nat → vp_A := fun j => match j with
  | 0 => (26400, .inl (fun _ => 0))
  | 1 => (48, .inr (.inl (fun _ => 0)))
  | 2 => (60, .inl (fun _ => 0))
  | 3 => (30, .inl (fun _ => 0))
  | 4 => (46, .inl (fun _ => 0))
  | 5 => (60, .inl (fun _ => 0))
  | 6 => (46, .inl (fun _ => 0))
  | 7 => (1000, .inr (.inl (fun _ => 0)))
  | 8 => (1000, .inr (.inl (fun _ => 0)))
  | 9 => (4000, .inl (fun _ => 0))
  | 10 => (44, .inl (fun _ => 0))
  | 11 => (44, .inl (fun _ => 0))
  | 12 => (44, .inl (fun _ => 0))
  | 13 => (44, .inl (fun _ => 0))
  | 14 => (60, .inl (fun _ => 0))
  | 15 => (60, .inl (fun _ => 0))
  | 16 => (44, .inl (fun _ => 0))
  | 17 => (44, .inl (fun _ => 0))
  | 18 => (44, .inl (fun _ => 0))
  | 19 => (44, .inl (fun _ => 0))
  | 20 => (44, .inl (fun _ => 0))
  | 21 => (44, .inl (fun _ => 0))
  | 22 => (6400, .inl (fun _ => 0))
  | 23 => (6400, .inl (fun _ => 0))
  | 24 => (44, .inl (fun _ => 0))
  | 25 => (44, .inl (fun _ => 0))
  | 26 => (44, .inl (fun _ => 0))
  | 27 => (44, .inl (fun _ => 0))
  | 28 => (44, .inl (fun _ => 0))
  | 29 => (4200, .inl (fun _ => 0))
  | 30 => (4200, .inl (fun _ => 0))
  | 31 => (4200, .inl (fun _ => 0))
  | 32 => (4200, .inl (fun _ => 0))
  | 33 => (4200, .inl (fun _ => 0))
  | 34 => (4200, .inl (fun _ => 0))
  | 35 => (4200, .inl (fun _ => 0))
  | 36 => (900, .inl (fun _ => 0))
  | 37 => (900, .inl (fun _ => 0))
  | 38 => (900, .inl (fun _ => 0))
  | 39 => (120, .inl (fun _ => 0))
  | 40 => (120, .inl (fun _ => 0))
  | 41 => (120, .inl (fun _ => 0))
  | 42 => (120, .inl (fun _ => 0))
  | 43 => (120, .inl (fun _ => 0))
  | 44 => (120, .inl (fun _ => 0))
  | 45 => (120, .inl (fun _ => 0))
  | 46 => (120, .inl (fun _ => 0))
  | 47 => (120, .inl (fun _ => 0))
  | 48 => (120, .inl (fun _ => 0))
  | 49 => (900, .inl (fun _ => 0))
  | 50 => (900, .inl (fun _ => 0))
  | 51 => (60, .inl (fun _ => 0))
  | 52 => (4300, .inl (fun _ => 0))
  | 53 => (4300, .inl (fun _ => 0))
  | 54 => (4300, .inl (fun _ => 0))
  | 55 => (4300, .inl (fun _ => 0))
  | 56 => (9, .inl (fun _ => 0))
  | 57 => (9, .inl (fun _ => 0))
  | 58 => (9, .inl (fun _ => 0))
  | 59 => (13, .inl (fun _ => 0))
  | 60 => (351, .inl (fun _ => 0))
  | 61 => (39, .inl (fun _ => 0))
  | 62 => (9, .inl (fun _ => 0))
  | 63 => (27, .inl (fun _ => 0))
  | 64 => (27, .inl (fun _ => 0))
  | 65 => (3, .inl (fun _ => 0))
  | 66 => (200, .inl (fun _ => 0))
  | 67 => (200, .inl (fun _ => 0))
  | 68 => (8, .inl (fun _ => 0))
  | 69 => (13, .inl (fun _ => 0))
  | 70 => (9, .inl (fun _ => 0))
  | 71 => (28, .inl (fun _ => 0))
  | 72 => (28, .inl (fun _ => 0))
  | 73 => (28, .inl (fun _ => 0))
  | 74 => (28, .inl (fun _ => 0))
  | 75 => (30000, .inl (fun _ => 0))
  | 76 => (250, .inl (fun _ => 0))
  | 77 => (20, .inl (fun _ => 0))
  | 78 => (10, .inl (fun _ => 0))
  | 79 => (10, .inl (fun _ => 0))
  | 80 => (12, .inl (fun _ => 0))
  | 81 => (12, .inl (fun _ => 0))
  | 82 => (12, .inl (fun _ => 0))
  | 83 => (12, .inl (fun _ => 0))
  | 84 => (192, .inl (fun _ => 0))
  | 85 => (16, .inl (fun _ => 0))
  | 86 => (10, .inl (fun _ => 0))
  | 87 => (16, .inl (fun _ => 0))
  | 88 => (16, .inl (fun _ => 0))
  | 89 => (17, .inl (fun _ => 0))
  | 90 => (10, .inl (fun _ => 0))
  | 91 => (50000, .inl (fun _ => 0))
  | 92 => (24, .inl (fun _ => 0))
  | 93 => (24, .inl (fun _ => 0))
  | 94 => (24, .inl (fun _ => 0))
  | 95 => (40, .inl (fun _ => 0))
  | 96 => (40, .inl (fun _ => 0))
  | 97 => (40, .inl (fun _ => 0))
  | 98 => (40, .inl (fun _ => 0))
  | 99 => (40, .inl (fun _ => 0))
  | 100 => (12, .inl (fun _ => 0))
  | 101 => (12, .inl (fun _ => 0))
  | 102 => (12, .inl (fun _ => 0))
  | 103 => (12, .inl (fun _ => 0))
  | 104 => (8, .inl (fun _ => 0))
  | 105 => (8, .inl (fun _ => 0))
  | _ => (8, .inl (fun _ => 0))
def arT : Nat → FieldType := fun j => match j with
  | 0 => .int
  | 1 => .long
  | 2 => .int
  | 3 => .int
  | 4 => .int
  | 5 => .int
  | 6 => .boolean
  | 7 => .long
  | 8 => .long
  | 9 => .byte
  | 10 => .int
  | 11 => .int
  | 12 => .int
  | 13 => .int
  | 14 => .int
  | 15 => .int
  | 16 => .int
  | 17 => .int
  | 18 => .int
  | 19 => .int
  | 20 => .int
  | 21 => .int
  | 22 => .int
  | 23 => .int
  | 24 => .int
  | 25 => .int
  | 26 => .int
  | 27 => .int
  | 28 => .int
  | 29 => .int
  | 30 => .int
  | 31 => .int
  | 32 => .int
  | 33 => .int
  | 34 => .int
  | 35 => .int
  | 36 => .int
  | 37 => .int
  | 38 => .int
  | 39 => .int
  | 40 => .int
  | 41 => .int
  | 42 => .int
  | 43 => .int
  | 44 => .int
  | 45 => .int
  | 46 => .int
  | 47 => .int
  | 48 => .int
  | 49 => .int
  | 50 => .int
  | 51 => .int
  | 52 => .int
  | 53 => .int
  | 54 => .int
  | 55 => .int
  | 56 => .int
  | 57 => .int
  | 58 => .int
  | 59 => .int
  | 60 => .int
  | 61 => .int
  | 62 => .int
  | 63 => .int
  | 64 => .int
  | 65 => .int
  | 66 => .int
  | 67 => .int
  | 68 => .int
  | 69 => .int
  | 70 => .int
  | 71 => .int
  | 72 => .int
  | 73 => .int
  | 74 => .int
  | 75 => .byte
  | 76 => .int
  | 77 => .int
  | 78 => .int
  | 79 => .int
  | 80 => .int
  | 81 => .int
  | 82 => .int
  | 83 => .int
  | 84 => .int
  | 85 => .int
  | 86 => .int
  | 87 => .int
  | 88 => .int
  | 89 => .int
  | 90 => .int
  | 91 => .int
  | 92 => .int
  | 93 => .int
  | 94 => .int
  | 95 => .int
  | 96 => .int
  | 97 => .int
  | 98 => .int
  | 99 => .int
  | 100 => .int
  | 101 => .int
  | 102 => .int
  | 103 => .int
  | 104 => .int
  | 105 => .int
  | _ => .int
def upF {α : Type} (f : Nat → α) (t : Nat) (x : α) : Nat → α := fun j => cond (Nat.beq j t) x (f j)
theorem upF_ne {α : Type} {f : Nat → α} {t j : Nat} {x : α} (h : j < t) : upF f t x j = f j := by
  have hk : Nat.beq j t = false := by
    cases e : Nat.beq j t with
    | false => rfl
    | true => exact absurd (Nat.eq_of_beq_eq_true e) (Nat.ne_of_lt h)
  simp [upF, hk]
theorem upF_eq {α : Type} {f : Nat → α} {t : Nat} {x : α} : upF f t x t = x := by simp [upF]
def cellM (a : Nat → Nat) (k : Nat → ClassId) (j : Nat) : Nat × va_E := (a j, .inl (k j, arrM j))
def tyM (k : Nat → ClassId) (j : Nat) : ClassId × FieldType := (k j, arT j)
theorem growX (a : Nat → Nat) (k : Nat → ClassId) (t q : Nat) (cA : ClassId) : (List.range (t + 1)).map (cellM (upF a t q) (upF k t cA)) = (List.range t).map (cellM a k) ++ [(q, .inl (cA, arrM t))] := by
  rw [List.range_succ, List.map_append]
  congr 1
  · apply List.map_congr_left
    intro j hj
    have h : j < t := List.mem_range.mp hj
    simp [cellM, upF_ne h]
  · simp [cellM, upF_eq]
theorem growT (k : Nat → ClassId) (t : Nat) (cA : ClassId) : (List.range (t + 1)).map (tyM (upF k t cA)) = (List.range t).map (tyM k) ++ [(cA, arT t)] := by
  rw [List.range_succ, List.map_append]
  congr 1
  · apply List.map_congr_left
    intro j hj
    have h : j < t := List.mem_range.mp hj
    simp [tyM, upF_ne h]
  · simp [tyM, upF_eq]
def vM (a : Nat → Nat) : Nat → Value := fun k => match k with
  | 0 => .int 0
  | 1 => .ref (a 0)
  | 2 => .ref (a 1)
  | 3 => .ref (a 2)
  | 4 => .ref (a 3)
  | 5 => .int 0
  | 6 => .int 0
  | 7 => .int 0
  | 8 => .ref (a 4)
  | 9 => .ref (a 5)
  | 10 => .ref (a 6)
  | 11 => .int 0
  | 12 => .long 0
  | 13 => .ref (a 7)
  | 14 => .ref (a 8)
  | 15 => .ref (a 9)
  | 16 => .int 0
  | 17 => .int 0
  | 18 => .int 0
  | 19 => .int 0
  | 20 => .int 0
  | 21 => .int 0
  | 22 => .int (-1)
  | 23 => .int 0
  | 24 => .int (-1)
  | 25 => .int 0
  | 26 => .ref (a 10)
  | 27 => .ref (a 11)
  | 28 => .ref (a 12)
  | 29 => .ref (a 13)
  | 30 => .int 0
  | 31 => .ref (a 14)
  | 32 => .ref (a 15)
  | 33 => .int (-1)
  | 34 => .int 0
  | 35 => .int 0
  | 36 => .int 0
  | 37 => .int 0
  | 38 => .int 0
  | 39 => .ref (a 16)
  | 40 => .ref (a 17)
  | 41 => .ref (a 18)
  | 42 => .ref (a 19)
  | 43 => .ref (a 20)
  | 44 => .ref (a 21)
  | 45 => .ref (a 22)
  | 46 => .ref (a 23)
  | 47 => .ref (a 24)
  | 48 => .ref (a 25)
  | 49 => .ref (a 26)
  | 50 => .ref (a 27)
  | 51 => .ref (a 28)
  | 52 => .int 0
  | 53 => .ref (a 29)
  | 54 => .ref (a 30)
  | 55 => .ref (a 31)
  | 56 => .ref (a 32)
  | 57 => .ref (a 33)
  | 58 => .ref (a 34)
  | 59 => .ref (a 35)
  | 60 => .int 0
  | 61 => .ref (a 36)
  | 62 => .ref (a 37)
  | 63 => .ref (a 38)
  | 64 => .ref (a 39)
  | 65 => .ref (a 40)
  | 66 => .ref (a 41)
  | 67 => .ref (a 42)
  | 68 => .ref (a 43)
  | 69 => .ref (a 44)
  | 70 => .ref (a 45)
  | 71 => .ref (a 46)
  | 72 => .ref (a 47)
  | 73 => .ref (a 48)
  | 74 => .int 0
  | 75 => .int 0
  | 76 => .int 0
  | 77 => .int 0
  | 78 => .ref (a 49)
  | 79 => .ref (a 50)
  | 80 => .ref (a 51)
  | 81 => .int 0
  | 82 => .int 0
  | 83 => .int 0
  | 84 => .int 0
  | 85 => .ref (a 52)
  | 86 => .ref (a 53)
  | 87 => .ref (a 54)
  | 88 => .ref (a 55)
  | 89 => .int 0
  | 90 => .int 0
  | 91 => .int 0
  | 92 => .int 0
  | 93 => .int 0
  | 94 => .int 0
  | 95 => .int 0
  | 96 => .ref (a 56)
  | 97 => .ref (a 57)
  | 98 => .ref (a 58)
  | 99 => .ref (a 59)
  | 100 => .ref (a 60)
  | 101 => .ref (a 61)
  | 102 => .ref (a 62)
  | 103 => .ref (a 63)
  | 104 => .ref (a 64)
  | 105 => .ref (a 65)
  | 106 => .ref (a 66)
  | 107 => .ref (a 67)
  | 108 => .ref (a 68)
  | 109 => .int 0
  | 110 => .int 0
  | 111 => .int 0
  | 112 => .int 0
  | 113 => .int 0
  | 114 => .ref (a 69)
  | 115 => .ref (a 70)
  | 116 => .int 0
  | 117 => .int 0
  | 118 => .int 0
  | 119 => .int 0
  | 120 => .ref (a 71)
  | 121 => .ref (a 72)
  | 122 => .ref (a 73)
  | 123 => .ref (a 74)
  | 124 => .ref (a 75)
  | 125 => .int 0
  | 126 => .ref (a 76)
  | 127 => .ref (a 77)
  | 128 => .int 0
  | 129 => .int 0
  | 130 => .ref (a 78)
  | 131 => .ref (a 79)
  | 132 => .ref (a 80)
  | 133 => .ref (a 81)
  | 134 => .ref (a 82)
  | 135 => .ref (a 83)
  | 136 => .ref (a 84)
  | 137 => .ref (a 85)
  | 138 => .int 0
  | 139 => .ref (a 86)
  | 140 => .ref (a 87)
  | 141 => .ref (a 88)
  | 142 => .ref (a 89)
  | 143 => .ref (a 90)
  | 144 => .ref (a 91)
  | 145 => .int (-1)
  | 146 => .int 0
  | 147 => .ref (a 92)
  | 148 => .ref (a 93)
  | 149 => .ref (a 94)
  | 150 => .int 0
  | 151 => .ref (a 95)
  | 152 => .ref (a 96)
  | 153 => .ref (a 97)
  | 154 => .ref (a 98)
  | 155 => .ref (a 99)
  | 156 => .ref (a 100)
  | 157 => .ref (a 101)
  | 158 => .ref (a 102)
  | 159 => .ref (a 103)
  | 160 => .ref (a 104)
  | 161 => .ref (a 105)
  | _ => .ref (a 106)
def LM (a : Nat → Nat) : List Value := [.int 0, .ref (a 0), .ref (a 1), .ref (a 2), .ref (a 3), .int 0, .int 0, .int 0, .ref (a 4), .ref (a 5), .ref (a 6), .int 0, .long 0, .ref (a 7), .ref (a 8), .ref (a 9), .int 0, .int 0, .int 0, .int 0, .int 0, .int 0, .int (-1), .int 0, .int (-1), .int 0, .ref (a 10), .ref (a 11), .ref (a 12), .ref (a 13), .int 0, .ref (a 14), .ref (a 15), .int (-1), .int 0, .int 0, .int 0, .int 0, .int 0, .ref (a 16), .ref (a 17), .ref (a 18), .ref (a 19), .ref (a 20), .ref (a 21), .ref (a 22), .ref (a 23), .ref (a 24), .ref (a 25), .ref (a 26), .ref (a 27), .ref (a 28), .int 0, .ref (a 29), .ref (a 30), .ref (a 31), .ref (a 32), .ref (a 33), .ref (a 34), .ref (a 35), .int 0, .ref (a 36), .ref (a 37), .ref (a 38), .ref (a 39), .ref (a 40), .ref (a 41), .ref (a 42), .ref (a 43), .ref (a 44), .ref (a 45), .ref (a 46), .ref (a 47), .ref (a 48), .int 0, .int 0, .int 0, .int 0, .ref (a 49), .ref (a 50), .ref (a 51), .int 0, .int 0, .int 0, .int 0, .ref (a 52), .ref (a 53), .ref (a 54), .ref (a 55), .int 0, .int 0, .int 0, .int 0, .int 0, .int 0, .int 0, .ref (a 56), .ref (a 57), .ref (a 58), .ref (a 59), .ref (a 60), .ref (a 61), .ref (a 62), .ref (a 63), .ref (a 64), .ref (a 65), .ref (a 66), .ref (a 67), .ref (a 68), .int 0, .int 0, .int 0, .int 0, .int 0, .ref (a 69), .ref (a 70), .int 0, .int 0, .int 0, .int 0, .ref (a 71), .ref (a 72), .ref (a 73), .ref (a 74), .ref (a 75), .int 0, .ref (a 76), .ref (a 77), .int 0, .int 0, .ref (a 78), .ref (a 79), .ref (a 80), .ref (a 81), .ref (a 82), .ref (a 83), .ref (a 84), .ref (a 85), .int 0, .ref (a 86), .ref (a 87), .ref (a 88), .ref (a 89), .ref (a 90), .ref (a 91), .int (-1), .int 0, .ref (a 92), .ref (a 93), .ref (a 94), .int 0, .ref (a 95), .ref (a 96), .ref (a 97), .ref (a 98), .ref (a 99), .ref (a 100), .ref (a 101), .ref (a 102), .ref (a 103), .ref (a 104), .ref (a 105), .ref (a 106)]
set_option maxRecDepth 20000 in
theorem LM_eq (a : Nat → Nat) : LM a = fM (vM a) := rfl
def aM (a : Nat → Nat) (k : Nat → ClassId) : va_W := (List.range 107).map (cellM a k)
def wX12 (a : Nat → Nat) (k : Nat → ClassId) (h0 : Nat) : va_W := (h0, .inr (12, fM (vM a))) :: aM a k
def tX12 (k : Nat → ClassId) : List (ClassId × FieldType) := (List.range 107).map (tyM k)
def a0M : Nat → Nat := fun _ => 0
def k0M : Nat → ClassId := fun _ => 0
set_option maxHeartbeats 4000000 in
set_option maxRecDepth 100000 in
theorem eM1 (q8 q16 q24 q32 q40 q48 q56 q65 q74 q83 q101 q109 q117 q125 q133 q141 q154 q162 q170 q178 q186 q194 q203 q212 q220 q228 q236 q244 q252 q261 q270 q279 q288 q297 q306 q315 q324 q333 q342 q350 q358 q366 q374 q382 q390 q398 q406 q414 q422 q431 q440 q448 q457 q466 q475 q484 q492 q500 q508 q516 q525 q533 q541 q549 q557 q564 q573 q582 q590 q598 q606 q614 q622 q630 q638 q647 q656 q664 q672 q680 q688 q696 q704 q712 q721 q729 q737 q745 q753 q761 q769 q778 q791 q799 q807 q815 q823 q831 q839 q847 q855 q863 q871 q879 q887 q895 q903 : Nat) : fM (mUp (mUp (mUp (mUp (mUp (mUp (mUp (mUp (mUp (mUp (mUp (mUp (mUp (mUp (mUp (mUp (mUp (mUp (mUp (mUp (mUp (mUp (mUp (mUp (mUp (mUp (mUp (mUp (mUp (mUp (mUp (mUp (mUp (mUp (mUp (mUp (mUp (mUp (mUp (mUp (mUp (mUp (mUp (mUp (mUp (mUp (mUp (mUp (mUp (mUp (mUp (mUp (mUp (mUp (mUp (mUp (mUp (mUp (mUp (mUp (mUp (mUp (mUp (mUp (mUp (mUp (mUp (mUp (mUp (mUp (mUp (mUp (mUp (mUp (mUp (mUp (mUp (mUp (mUp (mUp (mUp (mUp (mUp (mUp (mUp (mUp (mUp (mUp (mUp (mUp (mUp (mUp (mUp (mUp (mUp (mUp (mUp (mUp (mUp (mUp (mUp (mUp (mUp (mUp (mUp (mUp (mUp (mUp (mUp (mUp (mUp v0M 1 (.ref q8)) 2 (.ref q16)) 3 (.ref q24)) 4 (.ref q32)) 8 (.ref q40)) 9 (.ref q48)) 10 (.ref q56)) 13 (.ref q65)) 14 (.ref q74)) 15 (.ref q83)) 22 (.int (-1))) 24 (.int (-1))) 26 (.ref q101)) 27 (.ref q109)) 28 (.ref q117)) 29 (.ref q125)) 31 (.ref q133)) 32 (.ref q141)) 33 (.int (-1))) 39 (.ref q154)) 40 (.ref q162)) 41 (.ref q170)) 42 (.ref q178)) 43 (.ref q186)) 44 (.ref q194)) 45 (.ref q203)) 46 (.ref q212)) 47 (.ref q220)) 48 (.ref q228)) 49 (.ref q236)) 50 (.ref q244)) 51 (.ref q252)) 53 (.ref q261)) 54 (.ref q270)) 55 (.ref q279)) 56 (.ref q288)) 57 (.ref q297)) 58 (.ref q306)) 59 (.ref q315)) 61 (.ref q324)) 62 (.ref q333)) 63 (.ref q342)) 64 (.ref q350)) 65 (.ref q358)) 66 (.ref q366)) 67 (.ref q374)) 68 (.ref q382)) 69 (.ref q390)) 70 (.ref q398)) 71 (.ref q406)) 72 (.ref q414)) 73 (.ref q422)) 78 (.ref q431)) 79 (.ref q440)) 80 (.ref q448)) 85 (.ref q457)) 86 (.ref q466)) 87 (.ref q475)) 88 (.ref q484)) 96 (.ref q492)) 97 (.ref q500)) 98 (.ref q508)) 99 (.ref q516)) 100 (.ref q525)) 101 (.ref q533)) 102 (.ref q541)) 103 (.ref q549)) 104 (.ref q557)) 105 (.ref q564)) 106 (.ref q573)) 107 (.ref q582)) 108 (.ref q590)) 114 (.ref q598)) 115 (.ref q606)) 120 (.ref q614)) 121 (.ref q622)) 122 (.ref q630)) 123 (.ref q638)) 124 (.ref q647)) 126 (.ref q656)) 127 (.ref q664)) 130 (.ref q672)) 131 (.ref q680)) 132 (.ref q688)) 133 (.ref q696)) 134 (.ref q704)) 135 (.ref q712)) 136 (.ref q721)) 137 (.ref q729)) 139 (.ref q737)) 140 (.ref q745)) 141 (.ref q753)) 142 (.ref q761)) 143 (.ref q769)) 144 (.ref q778)) 145 (.int (-1))) 147 (.ref q791)) 148 (.ref q799)) 149 (.ref q807)) 151 (.ref q815)) 152 (.ref q823)) 153 (.ref q831)) 154 (.ref q839)) 155 (.ref q847)) 156 (.ref q855)) 157 (.ref q863)) 158 (.ref q871)) 159 (.ref q879)) 160 (.ref q887)) 161 (.ref q895)) 162 (.ref q903)) = LM (upF (upF (upF (upF (upF (upF (upF (upF (upF (upF (upF (upF (upF (upF (upF (upF (upF (upF (upF (upF (upF (upF (upF (upF (upF (upF (upF (upF (upF (upF (upF (upF (upF (upF (upF (upF (upF (upF (upF (upF (upF (upF (upF (upF (upF (upF (upF (upF (upF (upF (upF (upF (upF (upF (upF (upF (upF (upF (upF (upF (upF (upF (upF (upF (upF (upF (upF (upF (upF (upF (upF (upF (upF (upF (upF (upF (upF (upF (upF (upF (upF (upF (upF (upF (upF (upF (upF (upF (upF (upF (upF (upF (upF (upF (upF (upF (upF (upF (upF (upF (upF (upF (upF (upF (upF (upF (upF a0M 0 q8) 1 q16) 2 q24) 3 q32) 4 q40) 5 q48) 6 q56) 7 q65) 8 q74) 9 q83) 10 q101) 11 q109) 12 q117) 13 q125) 14 q133) 15 q141) 16 q154) 17 q162) 18 q170) 19 q178) 20 q186) 21 q194) 22 q203) 23 q212) 24 q220) 25 q228) 26 q236) 27 q244) 28 q252) 29 q261) 30 q270) 31 q279) 32 q288) 33 q297) 34 q306) 35 q315) 36 q324) 37 q333) 38 q342) 39 q350) 40 q358) 41 q366) 42 q374) 43 q382) 44 q390) 45 q398) 46 q406) 47 q414) 48 q422) 49 q431) 50 q440) 51 q448) 52 q457) 53 q466) 54 q475) 55 q484) 56 q492) 57 q500) 58 q508) 59 q516) 60 q525) 61 q533) 62 q541) 63 q549) 64 q557) 65 q564) 66 q573) 67 q582) 68 q590) 69 q598) 70 q606) 71 q614) 72 q622) 73 q630) 74 q638) 75 q647) 76 q656) 77 q664) 78 q672) 79 q680) 80 q688) 81 q696) 82 q704) 83 q712) 84 q721) 85 q729) 86 q737) 87 q745) 88 q753) 89 q761) 90 q769) 91 q778) 92 q791) 93 q799) 94 q807) 95 q815) 96 q823) 97 q831) 98 q839) 99 q847) 100 q855) 101 q863) 102 q871) 103 q879) 104 q887) 105 q895) 106 q903) := rfl
end
section
def wsX12_init_r1 : List Cond := [Cond.methodLink RX12 1 objectInit, Cond.instanceMethod objectInit, Cond.code objectInit ⟨#[0xb1]⟩ 1 none, Cond.arrayClass .int, Cond.fieldLink RX12 7 "OptimaWorksModel" "big" "[I", Cond.arrayClass .long, Cond.fieldLink RX12 13 "OptimaWorksModel" "sum" "[J", Cond.fieldLink RX12 17 "OptimaWorksModel" "rest" "[I", Cond.fieldLink RX12 20 "OptimaWorksModel" "less" "[I", Cond.fieldLink RX12 23 "OptimaWorksModel" "columnOf" "[I", Cond.fieldLink RX12 26 "OptimaWorksModel" "rowOf" "[I", Cond.arrayClass .boolean, Cond.fieldLink RX12 29 "OptimaWorksModel" "still" "[Z", Cond.fieldLink RX12 33 "OptimaWorksModel" "fast" "[J", Cond.fieldLink RX12 36 "OptimaWorksModel" "later" "[J", Cond.arrayClass .byte, Cond.fieldLink RX12 39 "OptimaWorksModel" "tape" "[B", Cond.fieldLink RX12 43 "OptimaWorksModel" "place" "I", Cond.fieldLink RX12 47 "OptimaWorksModel" "latestPlace" "I", Cond.fieldLink RX12 50 "OptimaWorksModel" "nameKind" "[I", Cond.fieldLink RX12 53 "OptimaWorksModel" "nameFrom" "[I", Cond.fieldLink RX12 56 "OptimaWorksModel" "nameLong" "[I", Cond.fieldLink RX12 59 "OptimaWorksModel" "nameOf" "[I", Cond.fieldLink RX12 62 "OptimaWorksModel" "binderFrom" "[I"]
def wsX12_init_r2 : List Cond := [Cond.fieldLink RX12 65 "OptimaWorksModel" "binderLong" "[I", Cond.fieldLink RX12 68 "OptimaWorksModel" "ownFrom" "I", Cond.fieldLink RX12 71 "OptimaWorksModel" "setLow" "[I", Cond.fieldLink RX12 74 "OptimaWorksModel" "setMany" "[I", Cond.fieldLink RX12 77 "OptimaWorksModel" "paramPlaces" "[I", Cond.fieldLink RX12 80 "OptimaWorksModel" "paramOne" "[I", Cond.fieldLink RX12 83 "OptimaWorksModel" "paramTwo" "[I", Cond.fieldLink RX12 86 "OptimaWorksModel" "paramAt" "[I", Cond.fieldLink RX12 89 "OptimaWorksModel" "paramTop" "[I", Cond.fieldLink RX12 92 "OptimaWorksModel" "paramUnder" "[I", Cond.fieldLink RX12 95 "OptimaWorksModel" "varPlaces" "[I", Cond.fieldLink RX12 98 "OptimaWorksModel" "varOne" "[I", Cond.fieldLink RX12 101 "OptimaWorksModel" "varTwo" "[I", Cond.fieldLink RX12 104 "OptimaWorksModel" "varAt" "[I", Cond.fieldLink RX12 107 "OptimaWorksModel" "varWhole" "[I", Cond.fieldLink RX12 110 "OptimaWorksModel" "kind" "[I", Cond.fieldLink RX12 113 "OptimaWorksModel" "partA" "[I", Cond.fieldLink RX12 116 "OptimaWorksModel" "partB" "[I", Cond.fieldLink RX12 119 "OptimaWorksModel" "partC" "[I", Cond.fieldLink RX12 122 "OptimaWorksModel" "where" "[I", Cond.fieldLink RX12 125 "OptimaWorksModel" "firstA" "[I", Cond.fieldLink RX12 128 "OptimaWorksModel" "firstB" "[I", Cond.fieldLink RX12 131 "OptimaWorksModel" "bindOne" "[I", Cond.fieldLink RX12 134 "OptimaWorksModel" "bindTwo" "[I"]
def wsX12_init_r3 : List Cond := [Cond.fieldLink RX12 137 "OptimaWorksModel" "bindAt" "[I", Cond.fieldLink RX12 140 "OptimaWorksModel" "what" "[I", Cond.fieldLink RX12 143 "OptimaWorksModel" "step" "[I", Cond.fieldLink RX12 146 "OptimaWorksModel" "got1" "[I", Cond.fieldLink RX12 149 "OptimaWorksModel" "got2" "[I", Cond.fieldLink RX12 152 "OptimaWorksModel" "sign1" "[I", Cond.fieldLink RX12 155 "OptimaWorksModel" "sign2" "[I", Cond.fieldLink RX12 158 "OptimaWorksModel" "at1" "[I", Cond.fieldLink RX12 161 "OptimaWorksModel" "at2" "[I", Cond.fieldLink RX12 164 "OptimaWorksModel" "begins" "[I", Cond.fieldLink RX12 167 "OptimaWorksModel" "extra" "[I", Cond.fieldLink RX12 170 "OptimaWorksModel" "top" "[I", Cond.fieldLink RX12 173 "OptimaWorksModel" "under" "[I", Cond.fieldLink RX12 176 "OptimaWorksModel" "env" "[I", Cond.fieldLink RX12 179 "OptimaWorksModel" "frame" "[I", Cond.fieldLink RX12 182 "OptimaWorksModel" "stage" "[I", Cond.fieldLink RX12 185 "OptimaWorksModel" "loopA" "[I", Cond.fieldLink RX12 188 "OptimaWorksModel" "loopB" "[I", Cond.fieldLink RX12 191 "OptimaWorksModel" "low" "[I", Cond.fieldLink RX12 194 "OptimaWorksModel" "high" "[I", Cond.fieldLink RX12 197 "OptimaWorksModel" "whole" "[I", Cond.fieldLink RX12 200 "OptimaWorksModel" "wayMany" "[I", Cond.fieldLink RX12 203 "OptimaWorksModel" "wayNumber" "[I", Cond.fieldLink RX12 206 "OptimaWorksModel" "waySign" "[I"]
def wsX12_init_r4 : List Cond := [Cond.fieldLink RX12 209 "OptimaWorksModel" "differentSet" "[I", Cond.fieldLink RX12 212 "OptimaWorksModel" "goalTop" "[I", Cond.fieldLink RX12 215 "OptimaWorksModel" "goalUnder" "[I", Cond.fieldLink RX12 218 "OptimaWorksModel" "goalMax" "[I", Cond.fieldLink RX12 221 "OptimaWorksModel" "partNode" "[I", Cond.fieldLink RX12 224 "OptimaWorksModel" "partFirst" "[I", Cond.fieldLink RX12 227 "OptimaWorksModel" "partSign" "[I", Cond.fieldLink RX12 230 "OptimaWorksModel" "chosen" "[I", Cond.fieldLink RX12 233 "OptimaWorksModel" "value" "[I", Cond.fieldLink RX12 236 "OptimaWorksModel" "needKind" "[I", Cond.fieldLink RX12 239 "OptimaWorksModel" "needOf" "[I", Cond.fieldLink RX12 242 "OptimaWorksModel" "needKept" "[I", Cond.fieldLink RX12 245 "OptimaWorksModel" "needColumn" "[I", Cond.fieldLink RX12 248 "OptimaWorksModel" "out" "[B", Cond.fieldLink RX12 251 "OptimaWorksModel" "digits" "[I", Cond.fieldLink RX12 254 "OptimaWorksModel" "ready" "[I", Cond.fieldLink RX12 257 "OptimaWorksModel" "domain" "[I", Cond.fieldLink RX12 260 "OptimaWorksModel" "now" "[I", Cond.fieldLink RX12 263 "OptimaWorksModel" "ruleKind" "[I", Cond.fieldLink RX12 266 "OptimaWorksModel" "ruleA" "[I", Cond.fieldLink RX12 269 "OptimaWorksModel" "ruleB" "[I", Cond.fieldLink RX12 272 "OptimaWorksModel" "ruleC" "[I", Cond.fieldLink RX12 275 "OptimaWorksModel" "rulePairs" "[I", Cond.fieldLink RX12 278 "OptimaWorksModel" "pairs" "[I"]
def wsX12_init_r5 : List Cond := [Cond.fieldLink RX12 281 "OptimaWorksModel" "with" "[I", Cond.fieldLink RX12 284 "OptimaWorksModel" "taker" "[I", Cond.fieldLink RX12 287 "OptimaWorksModel" "came" "[I", Cond.fieldLink RX12 290 "OptimaWorksModel" "looked" "[I", Cond.fieldLink RX12 293 "OptimaWorksModel" "rowValue" "[I", Cond.constant RX12 296 (50000), Cond.fieldLink RX12 297 "OptimaWorksModel" "listedRow" "[I", Cond.fieldLink RX12 300 "OptimaWorksModel" "listedMany" "I", Cond.fieldLink RX12 303 "OptimaWorksModel" "wants" "[I", Cond.fieldLink RX12 306 "OptimaWorksModel" "wantsNot" "[I", Cond.fieldLink RX12 309 "OptimaWorksModel" "weights" "[I", Cond.fieldLink RX12 312 "OptimaWorksModel" "arcFrom" "[I", Cond.fieldLink RX12 315 "OptimaWorksModel" "arcTo" "[I", Cond.fieldLink RX12 318 "OptimaWorksModel" "arcRoom" "[I", Cond.fieldLink RX12 321 "OptimaWorksModel" "arcCost" "[I", Cond.fieldLink RX12 324 "OptimaWorksModel" "flow" "[I", Cond.fieldLink RX12 327 "OptimaWorksModel" "price" "[I", Cond.fieldLink RX12 330 "OptimaWorksModel" "by" "[I", Cond.fieldLink RX12 333 "OptimaWorksModel" "far" "[I", Cond.fieldLink RX12 336 "OptimaWorksModel" "joined" "[I", Cond.fieldLink RX12 339 "OptimaWorksModel" "member1" "[I", Cond.fieldLink RX12 342 "OptimaWorksModel" "order" "[I", Cond.fieldLink RX12 345 "OptimaWorksModel" "tourBest" "[I"]
def wsX12_init : List Cond := .code yX12_init cX12_init 1 none :: ((wsX12_init_r1 ++ (wsX12_init_r2 ++ (wsX12_init_r3 ++ (wsX12_init_r4 ++ wsX12_init_r5)))) ++ wsX120)
theorem dX12_init_0 : decode cX12_init 0 = .ok (.aload_n 0, 1) := by decide +kernel
theorem dX12_init_1 : decode cX12_init 1 = .ok (.invokespecial 1, 3) := by decide +kernel
theorem dX12_init_4 : decode cX12_init 4 = .ok (.aload_n 0, 1) := by decide +kernel
theorem dX12_init_5 : decode cX12_init 5 = .ok (.sipush 26400, 3) := by decide +kernel
theorem dX12_init_8 : decode cX12_init 8 = .ok (.newarray .int, 2) := by decide +kernel
theorem dX12_init_10 : decode cX12_init 10 = .ok (.putfield 7, 3) := by decide +kernel
theorem dX12_init_13 : decode cX12_init 13 = .ok (.aload_n 0, 1) := by decide +kernel
theorem dX12_init_14 : decode cX12_init 14 = .ok (.bipush 48, 2) := by decide +kernel
theorem dX12_init_16 : decode cX12_init 16 = .ok (.newarray .long, 2) := by decide +kernel
theorem dX12_init_18 : decode cX12_init 18 = .ok (.putfield 13, 3) := by decide +kernel
theorem dX12_init_21 : decode cX12_init 21 = .ok (.aload_n 0, 1) := by decide +kernel
theorem dX12_init_22 : decode cX12_init 22 = .ok (.bipush 60, 2) := by decide +kernel
theorem dX12_init_24 : decode cX12_init 24 = .ok (.newarray .int, 2) := by decide +kernel
theorem dX12_init_26 : decode cX12_init 26 = .ok (.putfield 17, 3) := by decide +kernel
theorem dX12_init_29 : decode cX12_init 29 = .ok (.aload_n 0, 1) := by decide +kernel
theorem dX12_init_30 : decode cX12_init 30 = .ok (.bipush 30, 2) := by decide +kernel
theorem dX12_init_32 : decode cX12_init 32 = .ok (.newarray .int, 2) := by decide +kernel
theorem dX12_init_34 : decode cX12_init 34 = .ok (.putfield 20, 3) := by decide +kernel
theorem dX12_init_37 : decode cX12_init 37 = .ok (.aload_n 0, 1) := by decide +kernel
theorem dX12_init_38 : decode cX12_init 38 = .ok (.bipush 46, 2) := by decide +kernel
theorem dX12_init_40 : decode cX12_init 40 = .ok (.newarray .int, 2) := by decide +kernel
theorem dX12_init_42 : decode cX12_init 42 = .ok (.putfield 23, 3) := by decide +kernel
theorem dX12_init_45 : decode cX12_init 45 = .ok (.aload_n 0, 1) := by decide +kernel
theorem dX12_init_46 : decode cX12_init 46 = .ok (.bipush 60, 2) := by decide +kernel
theorem dX12_init_48 : decode cX12_init 48 = .ok (.newarray .int, 2) := by decide +kernel
theorem dX12_init_50 : decode cX12_init 50 = .ok (.putfield 26, 3) := by decide +kernel
theorem dX12_init_53 : decode cX12_init 53 = .ok (.aload_n 0, 1) := by decide +kernel
theorem dX12_init_54 : decode cX12_init 54 = .ok (.bipush 46, 2) := by decide +kernel
theorem dX12_init_56 : decode cX12_init 56 = .ok (.newarray .boolean, 2) := by decide +kernel
theorem dX12_init_58 : decode cX12_init 58 = .ok (.putfield 29, 3) := by decide +kernel
theorem dX12_init_61 : decode cX12_init 61 = .ok (.aload_n 0, 1) := by decide +kernel
theorem dX12_init_62 : decode cX12_init 62 = .ok (.sipush 1000, 3) := by decide +kernel
theorem dX12_init_65 : decode cX12_init 65 = .ok (.newarray .long, 2) := by decide +kernel
theorem dX12_init_67 : decode cX12_init 67 = .ok (.putfield 33, 3) := by decide +kernel
theorem dX12_init_70 : decode cX12_init 70 = .ok (.aload_n 0, 1) := by decide +kernel
theorem dX12_init_71 : decode cX12_init 71 = .ok (.sipush 1000, 3) := by decide +kernel
theorem dX12_init_74 : decode cX12_init 74 = .ok (.newarray .long, 2) := by decide +kernel
theorem dX12_init_76 : decode cX12_init 76 = .ok (.putfield 36, 3) := by decide +kernel
theorem dX12_init_79 : decode cX12_init 79 = .ok (.aload_n 0, 1) := by decide +kernel
theorem dX12_init_80 : decode cX12_init 80 = .ok (.sipush 4000, 3) := by decide +kernel
theorem dX12_init_83 : decode cX12_init 83 = .ok (.newarray .byte, 2) := by decide +kernel
theorem dX12_init_85 : decode cX12_init 85 = .ok (.putfield 39, 3) := by decide +kernel
theorem dX12_init_88 : decode cX12_init 88 = .ok (.aload_n 0, 1) := by decide +kernel
theorem dX12_init_89 : decode cX12_init 89 = .ok (.iconst (-1), 1) := by decide +kernel
theorem dX12_init_90 : decode cX12_init 90 = .ok (.putfield 43, 3) := by decide +kernel
theorem dX12_init_93 : decode cX12_init 93 = .ok (.aload_n 0, 1) := by decide +kernel
theorem dX12_init_94 : decode cX12_init 94 = .ok (.iconst (-1), 1) := by decide +kernel
theorem dX12_init_95 : decode cX12_init 95 = .ok (.putfield 47, 3) := by decide +kernel
theorem dX12_init_98 : decode cX12_init 98 = .ok (.aload_n 0, 1) := by decide +kernel
theorem dX12_init_99 : decode cX12_init 99 = .ok (.bipush 44, 2) := by decide +kernel
theorem dX12_init_101 : decode cX12_init 101 = .ok (.newarray .int, 2) := by decide +kernel
theorem dX12_init_103 : decode cX12_init 103 = .ok (.putfield 50, 3) := by decide +kernel
theorem dX12_init_106 : decode cX12_init 106 = .ok (.aload_n 0, 1) := by decide +kernel
theorem dX12_init_107 : decode cX12_init 107 = .ok (.bipush 44, 2) := by decide +kernel
theorem dX12_init_109 : decode cX12_init 109 = .ok (.newarray .int, 2) := by decide +kernel
theorem dX12_init_111 : decode cX12_init 111 = .ok (.putfield 53, 3) := by decide +kernel
theorem dX12_init_114 : decode cX12_init 114 = .ok (.aload_n 0, 1) := by decide +kernel
theorem dX12_init_115 : decode cX12_init 115 = .ok (.bipush 44, 2) := by decide +kernel
theorem dX12_init_117 : decode cX12_init 117 = .ok (.newarray .int, 2) := by decide +kernel
theorem dX12_init_119 : decode cX12_init 119 = .ok (.putfield 56, 3) := by decide +kernel
theorem dX12_init_122 : decode cX12_init 122 = .ok (.aload_n 0, 1) := by decide +kernel
theorem dX12_init_123 : decode cX12_init 123 = .ok (.bipush 44, 2) := by decide +kernel
theorem dX12_init_125 : decode cX12_init 125 = .ok (.newarray .int, 2) := by decide +kernel
theorem dX12_init_127 : decode cX12_init 127 = .ok (.putfield 59, 3) := by decide +kernel
theorem dX12_init_130 : decode cX12_init 130 = .ok (.aload_n 0, 1) := by decide +kernel
theorem dX12_init_131 : decode cX12_init 131 = .ok (.bipush 60, 2) := by decide +kernel
theorem dX12_init_133 : decode cX12_init 133 = .ok (.newarray .int, 2) := by decide +kernel
theorem dX12_init_135 : decode cX12_init 135 = .ok (.putfield 62, 3) := by decide +kernel
theorem dX12_init_138 : decode cX12_init 138 = .ok (.aload_n 0, 1) := by decide +kernel
theorem dX12_init_139 : decode cX12_init 139 = .ok (.bipush 60, 2) := by decide +kernel
theorem dX12_init_141 : decode cX12_init 141 = .ok (.newarray .int, 2) := by decide +kernel
theorem dX12_init_143 : decode cX12_init 143 = .ok (.putfield 65, 3) := by decide +kernel
theorem dX12_init_146 : decode cX12_init 146 = .ok (.aload_n 0, 1) := by decide +kernel
theorem dX12_init_147 : decode cX12_init 147 = .ok (.iconst (-1), 1) := by decide +kernel
theorem dX12_init_148 : decode cX12_init 148 = .ok (.putfield 68, 3) := by decide +kernel
theorem dX12_init_151 : decode cX12_init 151 = .ok (.aload_n 0, 1) := by decide +kernel
theorem dX12_init_152 : decode cX12_init 152 = .ok (.bipush 44, 2) := by decide +kernel
theorem dX12_init_154 : decode cX12_init 154 = .ok (.newarray .int, 2) := by decide +kernel
theorem dX12_init_156 : decode cX12_init 156 = .ok (.putfield 71, 3) := by decide +kernel
theorem dX12_init_159 : decode cX12_init 159 = .ok (.aload_n 0, 1) := by decide +kernel
theorem dX12_init_160 : decode cX12_init 160 = .ok (.bipush 44, 2) := by decide +kernel
theorem dX12_init_162 : decode cX12_init 162 = .ok (.newarray .int, 2) := by decide +kernel
theorem dX12_init_164 : decode cX12_init 164 = .ok (.putfield 74, 3) := by decide +kernel
theorem dX12_init_167 : decode cX12_init 167 = .ok (.aload_n 0, 1) := by decide +kernel
theorem dX12_init_168 : decode cX12_init 168 = .ok (.bipush 44, 2) := by decide +kernel
theorem dX12_init_170 : decode cX12_init 170 = .ok (.newarray .int, 2) := by decide +kernel
theorem dX12_init_172 : decode cX12_init 172 = .ok (.putfield 77, 3) := by decide +kernel
theorem dX12_init_175 : decode cX12_init 175 = .ok (.aload_n 0, 1) := by decide +kernel
theorem dX12_init_176 : decode cX12_init 176 = .ok (.bipush 44, 2) := by decide +kernel
theorem dX12_init_178 : decode cX12_init 178 = .ok (.newarray .int, 2) := by decide +kernel
theorem dX12_init_180 : decode cX12_init 180 = .ok (.putfield 80, 3) := by decide +kernel
theorem dX12_init_183 : decode cX12_init 183 = .ok (.aload_n 0, 1) := by decide +kernel
theorem dX12_init_184 : decode cX12_init 184 = .ok (.bipush 44, 2) := by decide +kernel
theorem dX12_init_186 : decode cX12_init 186 = .ok (.newarray .int, 2) := by decide +kernel
theorem dX12_init_188 : decode cX12_init 188 = .ok (.putfield 83, 3) := by decide +kernel
theorem dX12_init_191 : decode cX12_init 191 = .ok (.aload_n 0, 1) := by decide +kernel
theorem dX12_init_192 : decode cX12_init 192 = .ok (.bipush 44, 2) := by decide +kernel
theorem dX12_init_194 : decode cX12_init 194 = .ok (.newarray .int, 2) := by decide +kernel
theorem dX12_init_196 : decode cX12_init 196 = .ok (.putfield 86, 3) := by decide +kernel
theorem dX12_init_199 : decode cX12_init 199 = .ok (.aload_n 0, 1) := by decide +kernel
theorem dX12_init_200 : decode cX12_init 200 = .ok (.sipush 6400, 3) := by decide +kernel
theorem dX12_init_203 : decode cX12_init 203 = .ok (.newarray .int, 2) := by decide +kernel
theorem dX12_init_205 : decode cX12_init 205 = .ok (.putfield 89, 3) := by decide +kernel
theorem dX12_init_208 : decode cX12_init 208 = .ok (.aload_n 0, 1) := by decide +kernel
theorem dX12_init_209 : decode cX12_init 209 = .ok (.sipush 6400, 3) := by decide +kernel
theorem dX12_init_212 : decode cX12_init 212 = .ok (.newarray .int, 2) := by decide +kernel
theorem dX12_init_214 : decode cX12_init 214 = .ok (.putfield 92, 3) := by decide +kernel
theorem dX12_init_217 : decode cX12_init 217 = .ok (.aload_n 0, 1) := by decide +kernel
theorem dX12_init_218 : decode cX12_init 218 = .ok (.bipush 44, 2) := by decide +kernel
theorem dX12_init_220 : decode cX12_init 220 = .ok (.newarray .int, 2) := by decide +kernel
theorem dX12_init_222 : decode cX12_init 222 = .ok (.putfield 95, 3) := by decide +kernel
theorem dX12_init_225 : decode cX12_init 225 = .ok (.aload_n 0, 1) := by decide +kernel
theorem dX12_init_226 : decode cX12_init 226 = .ok (.bipush 44, 2) := by decide +kernel
theorem dX12_init_228 : decode cX12_init 228 = .ok (.newarray .int, 2) := by decide +kernel
theorem dX12_init_230 : decode cX12_init 230 = .ok (.putfield 98, 3) := by decide +kernel
theorem dX12_init_233 : decode cX12_init 233 = .ok (.aload_n 0, 1) := by decide +kernel
theorem dX12_init_234 : decode cX12_init 234 = .ok (.bipush 44, 2) := by decide +kernel
theorem dX12_init_236 : decode cX12_init 236 = .ok (.newarray .int, 2) := by decide +kernel
theorem dX12_init_238 : decode cX12_init 238 = .ok (.putfield 101, 3) := by decide +kernel
theorem dX12_init_241 : decode cX12_init 241 = .ok (.aload_n 0, 1) := by decide +kernel
theorem dX12_init_242 : decode cX12_init 242 = .ok (.bipush 44, 2) := by decide +kernel
theorem dX12_init_244 : decode cX12_init 244 = .ok (.newarray .int, 2) := by decide +kernel
theorem dX12_init_246 : decode cX12_init 246 = .ok (.putfield 104, 3) := by decide +kernel
theorem dX12_init_249 : decode cX12_init 249 = .ok (.aload_n 0, 1) := by decide +kernel
theorem dX12_init_250 : decode cX12_init 250 = .ok (.bipush 44, 2) := by decide +kernel
theorem dX12_init_252 : decode cX12_init 252 = .ok (.newarray .int, 2) := by decide +kernel
theorem dX12_init_254 : decode cX12_init 254 = .ok (.putfield 107, 3) := by decide +kernel
theorem dX12_init_257 : decode cX12_init 257 = .ok (.aload_n 0, 1) := by decide +kernel
theorem dX12_init_258 : decode cX12_init 258 = .ok (.sipush 4200, 3) := by decide +kernel
theorem dX12_init_261 : decode cX12_init 261 = .ok (.newarray .int, 2) := by decide +kernel
theorem dX12_init_263 : decode cX12_init 263 = .ok (.putfield 110, 3) := by decide +kernel
theorem dX12_init_266 : decode cX12_init 266 = .ok (.aload_n 0, 1) := by decide +kernel
theorem dX12_init_267 : decode cX12_init 267 = .ok (.sipush 4200, 3) := by decide +kernel
theorem dX12_init_270 : decode cX12_init 270 = .ok (.newarray .int, 2) := by decide +kernel
theorem dX12_init_272 : decode cX12_init 272 = .ok (.putfield 113, 3) := by decide +kernel
theorem dX12_init_275 : decode cX12_init 275 = .ok (.aload_n 0, 1) := by decide +kernel
theorem dX12_init_276 : decode cX12_init 276 = .ok (.sipush 4200, 3) := by decide +kernel
theorem dX12_init_279 : decode cX12_init 279 = .ok (.newarray .int, 2) := by decide +kernel
theorem dX12_init_281 : decode cX12_init 281 = .ok (.putfield 116, 3) := by decide +kernel
theorem dX12_init_284 : decode cX12_init 284 = .ok (.aload_n 0, 1) := by decide +kernel
theorem dX12_init_285 : decode cX12_init 285 = .ok (.sipush 4200, 3) := by decide +kernel
theorem dX12_init_288 : decode cX12_init 288 = .ok (.newarray .int, 2) := by decide +kernel
theorem dX12_init_290 : decode cX12_init 290 = .ok (.putfield 119, 3) := by decide +kernel
theorem dX12_init_293 : decode cX12_init 293 = .ok (.aload_n 0, 1) := by decide +kernel
theorem dX12_init_294 : decode cX12_init 294 = .ok (.sipush 4200, 3) := by decide +kernel
theorem dX12_init_297 : decode cX12_init 297 = .ok (.newarray .int, 2) := by decide +kernel
theorem dX12_init_299 : decode cX12_init 299 = .ok (.putfield 122, 3) := by decide +kernel
theorem dX12_init_302 : decode cX12_init 302 = .ok (.aload_n 0, 1) := by decide +kernel
theorem dX12_init_303 : decode cX12_init 303 = .ok (.sipush 4200, 3) := by decide +kernel
theorem dX12_init_306 : decode cX12_init 306 = .ok (.newarray .int, 2) := by decide +kernel
theorem dX12_init_308 : decode cX12_init 308 = .ok (.putfield 125, 3) := by decide +kernel
theorem dX12_init_311 : decode cX12_init 311 = .ok (.aload_n 0, 1) := by decide +kernel
theorem dX12_init_312 : decode cX12_init 312 = .ok (.sipush 4200, 3) := by decide +kernel
theorem dX12_init_315 : decode cX12_init 315 = .ok (.newarray .int, 2) := by decide +kernel
theorem dX12_init_317 : decode cX12_init 317 = .ok (.putfield 128, 3) := by decide +kernel
theorem dX12_init_320 : decode cX12_init 320 = .ok (.aload_n 0, 1) := by decide +kernel
theorem dX12_init_321 : decode cX12_init 321 = .ok (.sipush 900, 3) := by decide +kernel
theorem dX12_init_324 : decode cX12_init 324 = .ok (.newarray .int, 2) := by decide +kernel
theorem dX12_init_326 : decode cX12_init 326 = .ok (.putfield 131, 3) := by decide +kernel
theorem dX12_init_329 : decode cX12_init 329 = .ok (.aload_n 0, 1) := by decide +kernel
theorem dX12_init_330 : decode cX12_init 330 = .ok (.sipush 900, 3) := by decide +kernel
theorem dX12_init_333 : decode cX12_init 333 = .ok (.newarray .int, 2) := by decide +kernel
theorem dX12_init_335 : decode cX12_init 335 = .ok (.putfield 134, 3) := by decide +kernel
theorem dX12_init_338 : decode cX12_init 338 = .ok (.aload_n 0, 1) := by decide +kernel
theorem dX12_init_339 : decode cX12_init 339 = .ok (.sipush 900, 3) := by decide +kernel
theorem dX12_init_342 : decode cX12_init 342 = .ok (.newarray .int, 2) := by decide +kernel
theorem dX12_init_344 : decode cX12_init 344 = .ok (.putfield 137, 3) := by decide +kernel
theorem dX12_init_347 : decode cX12_init 347 = .ok (.aload_n 0, 1) := by decide +kernel
theorem dX12_init_348 : decode cX12_init 348 = .ok (.bipush 120, 2) := by decide +kernel
theorem dX12_init_350 : decode cX12_init 350 = .ok (.newarray .int, 2) := by decide +kernel
theorem dX12_init_352 : decode cX12_init 352 = .ok (.putfield 140, 3) := by decide +kernel
theorem dX12_init_355 : decode cX12_init 355 = .ok (.aload_n 0, 1) := by decide +kernel
theorem dX12_init_356 : decode cX12_init 356 = .ok (.bipush 120, 2) := by decide +kernel
theorem dX12_init_358 : decode cX12_init 358 = .ok (.newarray .int, 2) := by decide +kernel
theorem dX12_init_360 : decode cX12_init 360 = .ok (.putfield 143, 3) := by decide +kernel
theorem dX12_init_363 : decode cX12_init 363 = .ok (.aload_n 0, 1) := by decide +kernel
theorem dX12_init_364 : decode cX12_init 364 = .ok (.bipush 120, 2) := by decide +kernel
theorem dX12_init_366 : decode cX12_init 366 = .ok (.newarray .int, 2) := by decide +kernel
theorem dX12_init_368 : decode cX12_init 368 = .ok (.putfield 146, 3) := by decide +kernel
theorem dX12_init_371 : decode cX12_init 371 = .ok (.aload_n 0, 1) := by decide +kernel
theorem dX12_init_372 : decode cX12_init 372 = .ok (.bipush 120, 2) := by decide +kernel
theorem dX12_init_374 : decode cX12_init 374 = .ok (.newarray .int, 2) := by decide +kernel
theorem dX12_init_376 : decode cX12_init 376 = .ok (.putfield 149, 3) := by decide +kernel
theorem dX12_init_379 : decode cX12_init 379 = .ok (.aload_n 0, 1) := by decide +kernel
theorem dX12_init_380 : decode cX12_init 380 = .ok (.bipush 120, 2) := by decide +kernel
theorem dX12_init_382 : decode cX12_init 382 = .ok (.newarray .int, 2) := by decide +kernel
theorem dX12_init_384 : decode cX12_init 384 = .ok (.putfield 152, 3) := by decide +kernel
theorem dX12_init_387 : decode cX12_init 387 = .ok (.aload_n 0, 1) := by decide +kernel
theorem dX12_init_388 : decode cX12_init 388 = .ok (.bipush 120, 2) := by decide +kernel
theorem dX12_init_390 : decode cX12_init 390 = .ok (.newarray .int, 2) := by decide +kernel
theorem dX12_init_392 : decode cX12_init 392 = .ok (.putfield 155, 3) := by decide +kernel
theorem dX12_init_395 : decode cX12_init 395 = .ok (.aload_n 0, 1) := by decide +kernel
theorem dX12_init_396 : decode cX12_init 396 = .ok (.bipush 120, 2) := by decide +kernel
theorem dX12_init_398 : decode cX12_init 398 = .ok (.newarray .int, 2) := by decide +kernel
theorem dX12_init_400 : decode cX12_init 400 = .ok (.putfield 158, 3) := by decide +kernel
theorem dX12_init_403 : decode cX12_init 403 = .ok (.aload_n 0, 1) := by decide +kernel
theorem dX12_init_404 : decode cX12_init 404 = .ok (.bipush 120, 2) := by decide +kernel
theorem dX12_init_406 : decode cX12_init 406 = .ok (.newarray .int, 2) := by decide +kernel
theorem dX12_init_408 : decode cX12_init 408 = .ok (.putfield 161, 3) := by decide +kernel
theorem dX12_init_411 : decode cX12_init 411 = .ok (.aload_n 0, 1) := by decide +kernel
theorem dX12_init_412 : decode cX12_init 412 = .ok (.bipush 120, 2) := by decide +kernel
theorem dX12_init_414 : decode cX12_init 414 = .ok (.newarray .int, 2) := by decide +kernel
theorem dX12_init_416 : decode cX12_init 416 = .ok (.putfield 164, 3) := by decide +kernel
theorem dX12_init_419 : decode cX12_init 419 = .ok (.aload_n 0, 1) := by decide +kernel
theorem dX12_init_420 : decode cX12_init 420 = .ok (.bipush 120, 2) := by decide +kernel
theorem dX12_init_422 : decode cX12_init 422 = .ok (.newarray .int, 2) := by decide +kernel
theorem dX12_init_424 : decode cX12_init 424 = .ok (.putfield 167, 3) := by decide +kernel
theorem dX12_init_427 : decode cX12_init 427 = .ok (.aload_n 0, 1) := by decide +kernel
theorem dX12_init_428 : decode cX12_init 428 = .ok (.sipush 900, 3) := by decide +kernel
theorem dX12_init_431 : decode cX12_init 431 = .ok (.newarray .int, 2) := by decide +kernel
theorem dX12_init_433 : decode cX12_init 433 = .ok (.putfield 170, 3) := by decide +kernel
theorem dX12_init_436 : decode cX12_init 436 = .ok (.aload_n 0, 1) := by decide +kernel
theorem dX12_init_437 : decode cX12_init 437 = .ok (.sipush 900, 3) := by decide +kernel
theorem dX12_init_440 : decode cX12_init 440 = .ok (.newarray .int, 2) := by decide +kernel
theorem dX12_init_442 : decode cX12_init 442 = .ok (.putfield 173, 3) := by decide +kernel
theorem dX12_init_445 : decode cX12_init 445 = .ok (.aload_n 0, 1) := by decide +kernel
theorem dX12_init_446 : decode cX12_init 446 = .ok (.bipush 60, 2) := by decide +kernel
theorem dX12_init_448 : decode cX12_init 448 = .ok (.newarray .int, 2) := by decide +kernel
theorem dX12_init_450 : decode cX12_init 450 = .ok (.putfield 176, 3) := by decide +kernel
theorem dX12_init_453 : decode cX12_init 453 = .ok (.aload_n 0, 1) := by decide +kernel
theorem dX12_init_454 : decode cX12_init 454 = .ok (.sipush 4300, 3) := by decide +kernel
theorem dX12_init_457 : decode cX12_init 457 = .ok (.newarray .int, 2) := by decide +kernel
theorem dX12_init_459 : decode cX12_init 459 = .ok (.putfield 179, 3) := by decide +kernel
theorem dX12_init_462 : decode cX12_init 462 = .ok (.aload_n 0, 1) := by decide +kernel
theorem dX12_init_463 : decode cX12_init 463 = .ok (.sipush 4300, 3) := by decide +kernel
theorem dX12_init_466 : decode cX12_init 466 = .ok (.newarray .int, 2) := by decide +kernel
theorem dX12_init_468 : decode cX12_init 468 = .ok (.putfield 182, 3) := by decide +kernel
theorem dX12_init_471 : decode cX12_init 471 = .ok (.aload_n 0, 1) := by decide +kernel
theorem dX12_init_472 : decode cX12_init 472 = .ok (.sipush 4300, 3) := by decide +kernel
theorem dX12_init_475 : decode cX12_init 475 = .ok (.newarray .int, 2) := by decide +kernel
theorem dX12_init_477 : decode cX12_init 477 = .ok (.putfield 185, 3) := by decide +kernel
theorem dX12_init_480 : decode cX12_init 480 = .ok (.aload_n 0, 1) := by decide +kernel
theorem dX12_init_481 : decode cX12_init 481 = .ok (.sipush 4300, 3) := by decide +kernel
theorem dX12_init_484 : decode cX12_init 484 = .ok (.newarray .int, 2) := by decide +kernel
theorem dX12_init_486 : decode cX12_init 486 = .ok (.putfield 188, 3) := by decide +kernel
theorem dX12_init_489 : decode cX12_init 489 = .ok (.aload_n 0, 1) := by decide +kernel
theorem dX12_init_490 : decode cX12_init 490 = .ok (.bipush 9, 2) := by decide +kernel
theorem dX12_init_492 : decode cX12_init 492 = .ok (.newarray .int, 2) := by decide +kernel
theorem dX12_init_494 : decode cX12_init 494 = .ok (.putfield 191, 3) := by decide +kernel
theorem dX12_init_497 : decode cX12_init 497 = .ok (.aload_n 0, 1) := by decide +kernel
theorem dX12_init_498 : decode cX12_init 498 = .ok (.bipush 9, 2) := by decide +kernel
theorem dX12_init_500 : decode cX12_init 500 = .ok (.newarray .int, 2) := by decide +kernel
theorem dX12_init_502 : decode cX12_init 502 = .ok (.putfield 194, 3) := by decide +kernel
theorem dX12_init_505 : decode cX12_init 505 = .ok (.aload_n 0, 1) := by decide +kernel
theorem dX12_init_506 : decode cX12_init 506 = .ok (.bipush 9, 2) := by decide +kernel
theorem dX12_init_508 : decode cX12_init 508 = .ok (.newarray .int, 2) := by decide +kernel
theorem dX12_init_510 : decode cX12_init 510 = .ok (.putfield 197, 3) := by decide +kernel
theorem dX12_init_513 : decode cX12_init 513 = .ok (.aload_n 0, 1) := by decide +kernel
theorem dX12_init_514 : decode cX12_init 514 = .ok (.bipush 13, 2) := by decide +kernel
theorem dX12_init_516 : decode cX12_init 516 = .ok (.newarray .int, 2) := by decide +kernel
theorem dX12_init_518 : decode cX12_init 518 = .ok (.putfield 200, 3) := by decide +kernel
theorem dX12_init_521 : decode cX12_init 521 = .ok (.aload_n 0, 1) := by decide +kernel
theorem dX12_init_522 : decode cX12_init 522 = .ok (.sipush 351, 3) := by decide +kernel
theorem dX12_init_525 : decode cX12_init 525 = .ok (.newarray .int, 2) := by decide +kernel
theorem dX12_init_527 : decode cX12_init 527 = .ok (.putfield 203, 3) := by decide +kernel
theorem dX12_init_530 : decode cX12_init 530 = .ok (.aload_n 0, 1) := by decide +kernel
theorem dX12_init_531 : decode cX12_init 531 = .ok (.bipush 39, 2) := by decide +kernel
theorem dX12_init_533 : decode cX12_init 533 = .ok (.newarray .int, 2) := by decide +kernel
theorem dX12_init_535 : decode cX12_init 535 = .ok (.putfield 206, 3) := by decide +kernel
theorem dX12_init_538 : decode cX12_init 538 = .ok (.aload_n 0, 1) := by decide +kernel
theorem dX12_init_539 : decode cX12_init 539 = .ok (.bipush 9, 2) := by decide +kernel
theorem dX12_init_541 : decode cX12_init 541 = .ok (.newarray .int, 2) := by decide +kernel
theorem dX12_init_543 : decode cX12_init 543 = .ok (.putfield 209, 3) := by decide +kernel
theorem dX12_init_546 : decode cX12_init 546 = .ok (.aload_n 0, 1) := by decide +kernel
theorem dX12_init_547 : decode cX12_init 547 = .ok (.bipush 27, 2) := by decide +kernel
theorem dX12_init_549 : decode cX12_init 549 = .ok (.newarray .int, 2) := by decide +kernel
theorem dX12_init_551 : decode cX12_init 551 = .ok (.putfield 212, 3) := by decide +kernel
theorem dX12_init_554 : decode cX12_init 554 = .ok (.aload_n 0, 1) := by decide +kernel
theorem dX12_init_555 : decode cX12_init 555 = .ok (.bipush 27, 2) := by decide +kernel
theorem dX12_init_557 : decode cX12_init 557 = .ok (.newarray .int, 2) := by decide +kernel
theorem dX12_init_559 : decode cX12_init 559 = .ok (.putfield 215, 3) := by decide +kernel
theorem dX12_init_562 : decode cX12_init 562 = .ok (.aload_n 0, 1) := by decide +kernel
theorem dX12_init_563 : decode cX12_init 563 = .ok (.iconst 3, 1) := by decide +kernel
theorem dX12_init_564 : decode cX12_init 564 = .ok (.newarray .int, 2) := by decide +kernel
theorem dX12_init_566 : decode cX12_init 566 = .ok (.putfield 218, 3) := by decide +kernel
theorem dX12_init_569 : decode cX12_init 569 = .ok (.aload_n 0, 1) := by decide +kernel
theorem dX12_init_570 : decode cX12_init 570 = .ok (.sipush 200, 3) := by decide +kernel
theorem dX12_init_573 : decode cX12_init 573 = .ok (.newarray .int, 2) := by decide +kernel
theorem dX12_init_575 : decode cX12_init 575 = .ok (.putfield 221, 3) := by decide +kernel
theorem dX12_init_578 : decode cX12_init 578 = .ok (.aload_n 0, 1) := by decide +kernel
theorem dX12_init_579 : decode cX12_init 579 = .ok (.sipush 200, 3) := by decide +kernel
theorem dX12_init_582 : decode cX12_init 582 = .ok (.newarray .int, 2) := by decide +kernel
theorem dX12_init_584 : decode cX12_init 584 = .ok (.putfield 224, 3) := by decide +kernel
theorem dX12_init_587 : decode cX12_init 587 = .ok (.aload_n 0, 1) := by decide +kernel
theorem dX12_init_588 : decode cX12_init 588 = .ok (.bipush 8, 2) := by decide +kernel
theorem dX12_init_590 : decode cX12_init 590 = .ok (.newarray .int, 2) := by decide +kernel
theorem dX12_init_592 : decode cX12_init 592 = .ok (.putfield 227, 3) := by decide +kernel
theorem dX12_init_595 : decode cX12_init 595 = .ok (.aload_n 0, 1) := by decide +kernel
theorem dX12_init_596 : decode cX12_init 596 = .ok (.bipush 13, 2) := by decide +kernel
theorem dX12_init_598 : decode cX12_init 598 = .ok (.newarray .int, 2) := by decide +kernel
theorem dX12_init_600 : decode cX12_init 600 = .ok (.putfield 230, 3) := by decide +kernel
theorem dX12_init_603 : decode cX12_init 603 = .ok (.aload_n 0, 1) := by decide +kernel
theorem dX12_init_604 : decode cX12_init 604 = .ok (.bipush 9, 2) := by decide +kernel
theorem dX12_init_606 : decode cX12_init 606 = .ok (.newarray .int, 2) := by decide +kernel
theorem dX12_init_608 : decode cX12_init 608 = .ok (.putfield 233, 3) := by decide +kernel
theorem dX12_init_611 : decode cX12_init 611 = .ok (.aload_n 0, 1) := by decide +kernel
theorem dX12_init_612 : decode cX12_init 612 = .ok (.bipush 28, 2) := by decide +kernel
theorem dX12_init_614 : decode cX12_init 614 = .ok (.newarray .int, 2) := by decide +kernel
theorem dX12_init_616 : decode cX12_init 616 = .ok (.putfield 236, 3) := by decide +kernel
theorem dX12_init_619 : decode cX12_init 619 = .ok (.aload_n 0, 1) := by decide +kernel
theorem dX12_init_620 : decode cX12_init 620 = .ok (.bipush 28, 2) := by decide +kernel
theorem dX12_init_622 : decode cX12_init 622 = .ok (.newarray .int, 2) := by decide +kernel
theorem dX12_init_624 : decode cX12_init 624 = .ok (.putfield 239, 3) := by decide +kernel
theorem dX12_init_627 : decode cX12_init 627 = .ok (.aload_n 0, 1) := by decide +kernel
theorem dX12_init_628 : decode cX12_init 628 = .ok (.bipush 28, 2) := by decide +kernel
theorem dX12_init_630 : decode cX12_init 630 = .ok (.newarray .int, 2) := by decide +kernel
theorem dX12_init_632 : decode cX12_init 632 = .ok (.putfield 242, 3) := by decide +kernel
theorem dX12_init_635 : decode cX12_init 635 = .ok (.aload_n 0, 1) := by decide +kernel
theorem dX12_init_636 : decode cX12_init 636 = .ok (.bipush 28, 2) := by decide +kernel
theorem dX12_init_638 : decode cX12_init 638 = .ok (.newarray .int, 2) := by decide +kernel
theorem dX12_init_640 : decode cX12_init 640 = .ok (.putfield 245, 3) := by decide +kernel
theorem dX12_init_643 : decode cX12_init 643 = .ok (.aload_n 0, 1) := by decide +kernel
theorem dX12_init_644 : decode cX12_init 644 = .ok (.sipush 30000, 3) := by decide +kernel
theorem dX12_init_647 : decode cX12_init 647 = .ok (.newarray .byte, 2) := by decide +kernel
theorem dX12_init_649 : decode cX12_init 649 = .ok (.putfield 248, 3) := by decide +kernel
theorem dX12_init_652 : decode cX12_init 652 = .ok (.aload_n 0, 1) := by decide +kernel
theorem dX12_init_653 : decode cX12_init 653 = .ok (.sipush 250, 3) := by decide +kernel
theorem dX12_init_656 : decode cX12_init 656 = .ok (.newarray .int, 2) := by decide +kernel
theorem dX12_init_658 : decode cX12_init 658 = .ok (.putfield 251, 3) := by decide +kernel
theorem dX12_init_661 : decode cX12_init 661 = .ok (.aload_n 0, 1) := by decide +kernel
theorem dX12_init_662 : decode cX12_init 662 = .ok (.bipush 20, 2) := by decide +kernel
theorem dX12_init_664 : decode cX12_init 664 = .ok (.newarray .int, 2) := by decide +kernel
theorem dX12_init_666 : decode cX12_init 666 = .ok (.putfield 254, 3) := by decide +kernel
theorem dX12_init_669 : decode cX12_init 669 = .ok (.aload_n 0, 1) := by decide +kernel
theorem dX12_init_670 : decode cX12_init 670 = .ok (.bipush 10, 2) := by decide +kernel
theorem dX12_init_672 : decode cX12_init 672 = .ok (.newarray .int, 2) := by decide +kernel
theorem dX12_init_674 : decode cX12_init 674 = .ok (.putfield 257, 3) := by decide +kernel
theorem dX12_init_677 : decode cX12_init 677 = .ok (.aload_n 0, 1) := by decide +kernel
theorem dX12_init_678 : decode cX12_init 678 = .ok (.bipush 10, 2) := by decide +kernel
theorem dX12_init_680 : decode cX12_init 680 = .ok (.newarray .int, 2) := by decide +kernel
theorem dX12_init_682 : decode cX12_init 682 = .ok (.putfield 260, 3) := by decide +kernel
theorem dX12_init_685 : decode cX12_init 685 = .ok (.aload_n 0, 1) := by decide +kernel
theorem dX12_init_686 : decode cX12_init 686 = .ok (.bipush 12, 2) := by decide +kernel
theorem dX12_init_688 : decode cX12_init 688 = .ok (.newarray .int, 2) := by decide +kernel
theorem dX12_init_690 : decode cX12_init 690 = .ok (.putfield 263, 3) := by decide +kernel
theorem dX12_init_693 : decode cX12_init 693 = .ok (.aload_n 0, 1) := by decide +kernel
theorem dX12_init_694 : decode cX12_init 694 = .ok (.bipush 12, 2) := by decide +kernel
theorem dX12_init_696 : decode cX12_init 696 = .ok (.newarray .int, 2) := by decide +kernel
theorem dX12_init_698 : decode cX12_init 698 = .ok (.putfield 266, 3) := by decide +kernel
theorem dX12_init_701 : decode cX12_init 701 = .ok (.aload_n 0, 1) := by decide +kernel
theorem dX12_init_702 : decode cX12_init 702 = .ok (.bipush 12, 2) := by decide +kernel
theorem dX12_init_704 : decode cX12_init 704 = .ok (.newarray .int, 2) := by decide +kernel
theorem dX12_init_706 : decode cX12_init 706 = .ok (.putfield 269, 3) := by decide +kernel
theorem dX12_init_709 : decode cX12_init 709 = .ok (.aload_n 0, 1) := by decide +kernel
theorem dX12_init_710 : decode cX12_init 710 = .ok (.bipush 12, 2) := by decide +kernel
theorem dX12_init_712 : decode cX12_init 712 = .ok (.newarray .int, 2) := by decide +kernel
theorem dX12_init_714 : decode cX12_init 714 = .ok (.putfield 272, 3) := by decide +kernel
theorem dX12_init_717 : decode cX12_init 717 = .ok (.aload_n 0, 1) := by decide +kernel
theorem dX12_init_718 : decode cX12_init 718 = .ok (.sipush 192, 3) := by decide +kernel
theorem dX12_init_721 : decode cX12_init 721 = .ok (.newarray .int, 2) := by decide +kernel
theorem dX12_init_723 : decode cX12_init 723 = .ok (.putfield 275, 3) := by decide +kernel
theorem dX12_init_726 : decode cX12_init 726 = .ok (.aload_n 0, 1) := by decide +kernel
theorem dX12_init_727 : decode cX12_init 727 = .ok (.bipush 16, 2) := by decide +kernel
theorem dX12_init_729 : decode cX12_init 729 = .ok (.newarray .int, 2) := by decide +kernel
theorem dX12_init_731 : decode cX12_init 731 = .ok (.putfield 278, 3) := by decide +kernel
theorem dX12_init_734 : decode cX12_init 734 = .ok (.aload_n 0, 1) := by decide +kernel
theorem dX12_init_735 : decode cX12_init 735 = .ok (.bipush 10, 2) := by decide +kernel
theorem dX12_init_737 : decode cX12_init 737 = .ok (.newarray .int, 2) := by decide +kernel
theorem dX12_init_739 : decode cX12_init 739 = .ok (.putfield 281, 3) := by decide +kernel
theorem dX12_init_742 : decode cX12_init 742 = .ok (.aload_n 0, 1) := by decide +kernel
theorem dX12_init_743 : decode cX12_init 743 = .ok (.bipush 16, 2) := by decide +kernel
theorem dX12_init_745 : decode cX12_init 745 = .ok (.newarray .int, 2) := by decide +kernel
theorem dX12_init_747 : decode cX12_init 747 = .ok (.putfield 284, 3) := by decide +kernel
theorem dX12_init_750 : decode cX12_init 750 = .ok (.aload_n 0, 1) := by decide +kernel
theorem dX12_init_751 : decode cX12_init 751 = .ok (.bipush 16, 2) := by decide +kernel
theorem dX12_init_753 : decode cX12_init 753 = .ok (.newarray .int, 2) := by decide +kernel
theorem dX12_init_755 : decode cX12_init 755 = .ok (.putfield 287, 3) := by decide +kernel
theorem dX12_init_758 : decode cX12_init 758 = .ok (.aload_n 0, 1) := by decide +kernel
theorem dX12_init_759 : decode cX12_init 759 = .ok (.bipush 17, 2) := by decide +kernel
theorem dX12_init_761 : decode cX12_init 761 = .ok (.newarray .int, 2) := by decide +kernel
theorem dX12_init_763 : decode cX12_init 763 = .ok (.putfield 290, 3) := by decide +kernel
theorem dX12_init_766 : decode cX12_init 766 = .ok (.aload_n 0, 1) := by decide +kernel
theorem dX12_init_767 : decode cX12_init 767 = .ok (.bipush 10, 2) := by decide +kernel
theorem dX12_init_769 : decode cX12_init 769 = .ok (.newarray .int, 2) := by decide +kernel
theorem dX12_init_771 : decode cX12_init 771 = .ok (.putfield 293, 3) := by decide +kernel
theorem dX12_init_774 : decode cX12_init 774 = .ok (.aload_n 0, 1) := by decide +kernel
theorem dX12_init_775 : decode cX12_init 775 = .ok (.ldc_w 296, 3) := by decide +kernel
theorem dX12_init_778 : decode cX12_init 778 = .ok (.newarray .int, 2) := by decide +kernel
theorem dX12_init_780 : decode cX12_init 780 = .ok (.putfield 297, 3) := by decide +kernel
theorem dX12_init_783 : decode cX12_init 783 = .ok (.aload_n 0, 1) := by decide +kernel
theorem dX12_init_784 : decode cX12_init 784 = .ok (.iconst (-1), 1) := by decide +kernel
theorem dX12_init_785 : decode cX12_init 785 = .ok (.putfield 300, 3) := by decide +kernel
theorem dX12_init_788 : decode cX12_init 788 = .ok (.aload_n 0, 1) := by decide +kernel
theorem dX12_init_789 : decode cX12_init 789 = .ok (.bipush 24, 2) := by decide +kernel
theorem dX12_init_791 : decode cX12_init 791 = .ok (.newarray .int, 2) := by decide +kernel
theorem dX12_init_793 : decode cX12_init 793 = .ok (.putfield 303, 3) := by decide +kernel
theorem dX12_init_796 : decode cX12_init 796 = .ok (.aload_n 0, 1) := by decide +kernel
theorem dX12_init_797 : decode cX12_init 797 = .ok (.bipush 24, 2) := by decide +kernel
theorem dX12_init_799 : decode cX12_init 799 = .ok (.newarray .int, 2) := by decide +kernel
theorem dX12_init_801 : decode cX12_init 801 = .ok (.putfield 306, 3) := by decide +kernel
theorem dX12_init_804 : decode cX12_init 804 = .ok (.aload_n 0, 1) := by decide +kernel
theorem dX12_init_805 : decode cX12_init 805 = .ok (.bipush 24, 2) := by decide +kernel
theorem dX12_init_807 : decode cX12_init 807 = .ok (.newarray .int, 2) := by decide +kernel
theorem dX12_init_809 : decode cX12_init 809 = .ok (.putfield 309, 3) := by decide +kernel
theorem dX12_init_812 : decode cX12_init 812 = .ok (.aload_n 0, 1) := by decide +kernel
theorem dX12_init_813 : decode cX12_init 813 = .ok (.bipush 40, 2) := by decide +kernel
theorem dX12_init_815 : decode cX12_init 815 = .ok (.newarray .int, 2) := by decide +kernel
theorem dX12_init_817 : decode cX12_init 817 = .ok (.putfield 312, 3) := by decide +kernel
theorem dX12_init_820 : decode cX12_init 820 = .ok (.aload_n 0, 1) := by decide +kernel
theorem dX12_init_821 : decode cX12_init 821 = .ok (.bipush 40, 2) := by decide +kernel
theorem dX12_init_823 : decode cX12_init 823 = .ok (.newarray .int, 2) := by decide +kernel
theorem dX12_init_825 : decode cX12_init 825 = .ok (.putfield 315, 3) := by decide +kernel
theorem dX12_init_828 : decode cX12_init 828 = .ok (.aload_n 0, 1) := by decide +kernel
theorem dX12_init_829 : decode cX12_init 829 = .ok (.bipush 40, 2) := by decide +kernel
theorem dX12_init_831 : decode cX12_init 831 = .ok (.newarray .int, 2) := by decide +kernel
theorem dX12_init_833 : decode cX12_init 833 = .ok (.putfield 318, 3) := by decide +kernel
theorem dX12_init_836 : decode cX12_init 836 = .ok (.aload_n 0, 1) := by decide +kernel
theorem dX12_init_837 : decode cX12_init 837 = .ok (.bipush 40, 2) := by decide +kernel
theorem dX12_init_839 : decode cX12_init 839 = .ok (.newarray .int, 2) := by decide +kernel
theorem dX12_init_841 : decode cX12_init 841 = .ok (.putfield 321, 3) := by decide +kernel
theorem dX12_init_844 : decode cX12_init 844 = .ok (.aload_n 0, 1) := by decide +kernel
theorem dX12_init_845 : decode cX12_init 845 = .ok (.bipush 40, 2) := by decide +kernel
theorem dX12_init_847 : decode cX12_init 847 = .ok (.newarray .int, 2) := by decide +kernel
theorem dX12_init_849 : decode cX12_init 849 = .ok (.putfield 324, 3) := by decide +kernel
theorem dX12_init_852 : decode cX12_init 852 = .ok (.aload_n 0, 1) := by decide +kernel
theorem dX12_init_853 : decode cX12_init 853 = .ok (.bipush 12, 2) := by decide +kernel
theorem dX12_init_855 : decode cX12_init 855 = .ok (.newarray .int, 2) := by decide +kernel
theorem dX12_init_857 : decode cX12_init 857 = .ok (.putfield 327, 3) := by decide +kernel
theorem dX12_init_860 : decode cX12_init 860 = .ok (.aload_n 0, 1) := by decide +kernel
theorem dX12_init_861 : decode cX12_init 861 = .ok (.bipush 12, 2) := by decide +kernel
theorem dX12_init_863 : decode cX12_init 863 = .ok (.newarray .int, 2) := by decide +kernel
theorem dX12_init_865 : decode cX12_init 865 = .ok (.putfield 330, 3) := by decide +kernel
theorem dX12_init_868 : decode cX12_init 868 = .ok (.aload_n 0, 1) := by decide +kernel
theorem dX12_init_869 : decode cX12_init 869 = .ok (.bipush 12, 2) := by decide +kernel
theorem dX12_init_871 : decode cX12_init 871 = .ok (.newarray .int, 2) := by decide +kernel
theorem dX12_init_873 : decode cX12_init 873 = .ok (.putfield 333, 3) := by decide +kernel
theorem dX12_init_876 : decode cX12_init 876 = .ok (.aload_n 0, 1) := by decide +kernel
theorem dX12_init_877 : decode cX12_init 877 = .ok (.bipush 12, 2) := by decide +kernel
theorem dX12_init_879 : decode cX12_init 879 = .ok (.newarray .int, 2) := by decide +kernel
theorem dX12_init_881 : decode cX12_init 881 = .ok (.putfield 336, 3) := by decide +kernel
theorem dX12_init_884 : decode cX12_init 884 = .ok (.aload_n 0, 1) := by decide +kernel
theorem dX12_init_885 : decode cX12_init 885 = .ok (.bipush 8, 2) := by decide +kernel
theorem dX12_init_887 : decode cX12_init 887 = .ok (.newarray .int, 2) := by decide +kernel
theorem dX12_init_889 : decode cX12_init 889 = .ok (.putfield 339, 3) := by decide +kernel
theorem dX12_init_892 : decode cX12_init 892 = .ok (.aload_n 0, 1) := by decide +kernel
theorem dX12_init_893 : decode cX12_init 893 = .ok (.bipush 8, 2) := by decide +kernel
theorem dX12_init_895 : decode cX12_init 895 = .ok (.newarray .int, 2) := by decide +kernel
theorem dX12_init_897 : decode cX12_init 897 = .ok (.putfield 342, 3) := by decide +kernel
theorem dX12_init_900 : decode cX12_init 900 = .ok (.aload_n 0, 1) := by decide +kernel
theorem dX12_init_901 : decode cX12_init 901 = .ok (.bipush 8, 2) := by decide +kernel
theorem dX12_init_903 : decode cX12_init 903 = .ok (.newarray .int, 2) := by decide +kernel
theorem dX12_init_905 : decode cX12_init 905 = .ok (.putfield 345, 3) := by decide +kernel
theorem dX12_init_908 : decode cX12_init 908 = .ok (.return_, 1) := by decide +kernel
theorem iX12_init_in12 : ∀ w ∈ wsX120, w ∈ wsX12_init := fun _ h => List.mem_cons_of_mem _ (List.mem_append_right _ h)
section
variable {p : Program} {l : Launch} {e : Env} {R : Room} {s : State} {m : MethodId} {args : Array Value} {below : List Frame} {meth : Method} {c : Code} {H : Heap} {locs : List Loc} {cells slots : Nat} {Q : State → Prop} {dC : Nat → ClassId} {dI : Nat → Nat → Nat} {A : Nat → Prop} {h0 : Nat} {v : Nat → Value} {X : va_W} {ts : List (ClassId × FieldType)} {a : Nat → Nat} {ka : Nat → ClassId} {Ts : List Cond} {ls : Array Slot} {H0 : Heap}
/-- a group of the constructor: a new row, kept in the field k -/
theorem newRowM {pc pc2 : Nat} (t : Nat) {atype : ArrayType} {ty : FieldType} {n : Int32} {N' : Nat} {k index : Nat}
    (hx : p.tables.exec = Jvm.exec) (hb : c.code = cX12_init) (hts : ∀ w ∈ Ts, w.before args s = true) (hin : ∀ w ∈ wsX120, w ∈ Ts) (hown : s.vm.findClass RX12 = some m.cls) (hnm : meth.name = "<init>")
    (hK : va_K (dC, dI) vwCl ((List.range t).map (tyM ka)) s) (hP : va_P (dC, dI) vwCl ((h0, .inr (12, fM v)) :: (List.range t).map (cellM a ka)) H) (hD : va_D A ((h0, .inr (12, fM v)) :: (List.range t).map (cellM a ka))) (hS : va_S A H0 H locs) (hA : ∀ q, H0.size ≤ q → A q) (hl : lv_has ls 1 [(0, .ref h0)])
    (d0 : decode cX12_init pc = .ok (.aload_n 0, 1))
    (push : W p l e R s m args below meth c H locs cells slots Q (F0 m pc2 ls [.int n, .ref h0]) → W p l e R s m args below meth c H locs cells slots Q (F0 m (pc + 1) ls [.ref h0]))
    (harr : (Cond.arrayClass (newarray.typeOf atype)).before args s = true) (hty : newarray.typeOf atype = ty) (hat : arT t = ty) (ha : ∀ cA : ClassId, vp_cell cA (arrM t) = arrV cA N' (fun _ => defaultValue ty)) (hn : ¬ n < 0) (hN : n.toNatClampNeg = N') (hbytes : N' * componentBytes ty ≤ 536870912) (hcells : cells + 1 ≤ R.cells) (hslots : slots + N' ≤ R.slots)
    (d2 : decode cX12_init pc2 = .ok (.newarray atype, 2))
    (hk : k < 163) (hlink : (Cond.fieldLink RX12 index RX12 (TX12 k).2.1 (TX12 k).2.2.1).before args s = true) (hfin : (TX12 k).2.2.2 = true) (hdecl : (TX12 k).1 = RX12) (hd : parseFieldDescriptor (TX12 k).2.2.1 = some (.array ty))
    (d3 : decode cX12_init (pc2 + 2) = .ok (.putfield index, 3))
    (kk : ∀ (q : Nat) (cA : ClassId) (H1 : Heap) (locs1 : List Loc), va_K (dC, dI) vwCl ((List.range (t + 1)).map (tyM (upF ka t cA))) s → va_P (dC, dI) vwCl ((h0, .inr (12, fM (mUp v k (.ref q)))) :: (List.range (t + 1)).map (cellM (upF a t q) (upF ka t cA))) H1 → va_D A ((h0, .inr (12, fM (mUp v k (.ref q)))) :: (List.range (t + 1)).map (cellM (upF a t q) (upF ka t cA))) → va_S A H0 H1 locs1 →
      W p l e R s m args below meth c H1 locs1 (cells + 1) (slots + N') Q (F0 m (pc2 + 2 + 3) ls [])) :
    W p l e R s m args below meth c H locs cells slots Q (F0 m pc ls []) := by
  refine lv_aload_n hx hb d0 rfl (lv_at hl 0 rfl) ?_
  refine push ?_
  refine va_newa (atype := atype) (ty := ty) (N' := N') (a0 := arrM t) hx hb harr hty hK hP hD hS hA ha hn hN hbytes hcells hslots d2 (fun q cA H1 hK hP hD hS => ?_)
  refine va_putF (D := (dC, dI)) (ci := 12) (v := .ref q) (ty := .array ty) (C := RX12) (T := TX12) (N := 163) hx hb hts hin tyX12 tyX12_ok nmX12 hown hK hP hD hS 0 rfl rfl k hk hlink (fun x h9 => by rw [hdecl] at h9; exact h9) hfin hnm hdecl hd rfl rfl (by rw [fM_len]; exact hk) d3 (fun H locs hP hD hS => ?_)
  refine kk q cA H locs ?_ ?_ ?_ hS
  · rw [growT, hat]; exact hK
  · rw [growX, ← mSet]; exact hP
  · rw [growX, ← mSet]; exact hD
/-- a group of the constructor: a number, kept in the field k -/
theorem newIntM {pc pc2 : Nat} {n : Int32} {k index : Nat}
    (hx : p.tables.exec = Jvm.exec) (hb : c.code = cX12_init) (hts : ∀ w ∈ Ts, w.before args s = true) (hin : ∀ w ∈ wsX120, w ∈ Ts) (hown : s.vm.findClass RX12 = some m.cls)
    (hK : va_K (dC, dI) vwCl ts s) (hP : va_P (dC, dI) vwCl ((h0, .inr (12, fM v)) :: X) H) (hD : va_D A ((h0, .inr (12, fM v)) :: X)) (hS : va_S A H0 H locs) (hl : lv_has ls 1 [(0, .ref h0)])
    (d0 : decode cX12_init pc = .ok (.aload_n 0, 1))
    (push : W p l e R s m args below meth c H locs cells slots Q (F0 m pc2 ls [.int n, .ref h0]) → W p l e R s m args below meth c H locs cells slots Q (F0 m (pc + 1) ls [.ref h0]))
    (hk : k < 163) (hlink : (Cond.fieldLink RX12 index RX12 (TX12 k).2.1 (TX12 k).2.2.1).before args s = true) (hfin : (TX12 k).2.2.2 = false) (hdecl : (TX12 k).1 = RX12) (hd : parseFieldDescriptor (TX12 k).2.2.1 = some .int)
    (d3 : decode cX12_init pc2 = .ok (.putfield index, 3))
    (kk : ∀ (H1 : Heap) (locs1 : List Loc), va_P (dC, dI) vwCl ((h0, .inr (12, fM (mUp v k (.int n)))) :: X) H1 → va_D A ((h0, .inr (12, fM (mUp v k (.int n)))) :: X) → va_S A H0 H1 locs1 →
      W p l e R s m args below meth c H1 locs1 cells slots Q (F0 m (pc2 + 3) ls [])) :
    W p l e R s m args below meth c H locs cells slots Q (F0 m pc ls []) := by
  refine lv_aload_n hx hb d0 rfl (lv_at hl 0 rfl) ?_
  refine push ?_
  refine va_put (D := (dC, dI)) (ci := 12) (v := .int n) (ty := .int) (C := RX12) (T := TX12) (N := 163) hx hb hts hin tyX12 tyX12_ok nmX12 hown hK hP hD hS 0 rfl rfl k hk hlink (fun x h9 => by rw [hdecl] at h9; exact h9) hfin hd rfl rfl (by rw [fM_len]; exact hk) d3 (fun H locs hP hD hS => ?_)
  refine kk H locs ?_ ?_ hS
  · rw [← mSet]; exact hP
  · rw [← mSet]; exact hD
end
set_option maxHeartbeats 4000000 in
set_option maxRecDepth 100000 in
/-- OptimaWorksModel(): all its rows -/
theorem c_X12_init (l : Launch) (dC : Nat → ClassId) (dI : Nat → Nat → Nat) (h0 : Nat) (sz : Nat) : Met l yX12_init wsX12_init ({ frames := 1, cells := 107, slots := 180627, locals := 12 }) (va_Pc [.ref h0] (fun U => U.heap.size = sz ∧ va_P (dC, dI) vwCl [(h0, .inr (12, fM v0M))] U.heap ∧ va_K (dC, dI) vwCl [] U ∧ va_D (fun _ => True) [(h0, .inr (12, fM v0M))])) (va_Qv (fun _ : (Nat → Nat) × (Nat → ClassId) => True) (fun u t => va_P (dC, dI) vwCl (wX12 u.1 u.2 h0) t.heap ∧ va_K (dC, dI) vwCl (tX12 u.2) t ∧ va_D (va_A [(h0, .inr (12, fM v0M))] sz) (wX12 u.1 u.2 h0)) (va_A [(h0, .inr (12, fM v0M))] sz)) 107 180627 (va_A [(h0, .inr (12, fM v0M))] sz) := by
  refine Met.ofW (cc := cX12_init) (maxL := 1) (ret := none) (by decide) rfl ?_
  intro p e s m args below meth c s₁ B hml hv
  obtain ⟨rfl, hsz, hP, hK, hD0⟩ := hv
  have hx := B.exec
  have hb := B.bytes
  have hr := B.returns
  have hts := atoms_spec (ws := wsX12_init) B.pre
  have hown : s.vm.findClass RX12 = some m.cls := findClass_of_methodNamed B.named
  have hlocks := B.notSynchronized
  have hin : meth.name = "<init>" := (name_of_methodNamed B.named B.method).1
  subst hsz
  have hD := hD0.self (sz := s.heap.size)
  generalize hAe : va_A [(h0, .inr (12, fM v0M))] s.heap.size = A at hD ⊢
  have hA : ∀ q : Nat, s.heap.size ≤ q → A q := fun q h => by rw [← hAe]; exact Or.inr h
  have hS : va_S A s.heap s.heap [] := va_S.rf
  have hP : va_P (dC, dI) vwCl ((h0, .inr (12, fM v0M)) :: (List.range 0).map (cellM a0M k0M)) s.heap := hP
  have hD : va_D A ((h0, .inr (12, fM v0M)) :: (List.range 0).map (cellM a0M k0M)) := hD
  have hK : va_K (dC, dI) vwCl ((List.range 0).map (tyM k0M)) s := hK
  have hl := lv_entry ([.ref h0]) (n := 1) (Nat.le_of_ble_eq_true rfl)
  rw [lg_entry_eq]
  generalize (lg_sl ([.ref h0]) ++ List.replicate (1 - (lg_sl ([.ref h0])).length) Slot.unset).toArray = ls at hl ⊢
  have hl : lv_has ls 1 [(0, .ref h0)] := hl
  refine lv_aload_n hx hb dX12_init_0 rfl (lv_at hl 0 rfl) ?_
  refine W.objInit hx hb hown (hts (.methodLink RX12 1 objectInit) (by decide +kernel)) (hts (.instanceMethod objectInit) (by decide +kernel)) (hts (.code objectInit ⟨#[0xb1]⟩ 1 none) (by decide +kernel)) rfl (by rw [hml]; exact hl.1) rfl dX12_init_1 (by decide +kernel) (Nat.le_of_ble_eq_true rfl) ?_
  refine W.eq (g2 := F0 m 4 ls []) rfl ?_
  refine newRowM 0 (n := 26400) (N' := 26400) (k := 1) (index := 7) (atype := .int) (ty := .int) hx hb hts iX12_init_in12 hown hin hK hP hD hS hA hl dX12_init_4 (fun h => lv_sipush (v := 26400) hx hb dX12_init_5 (by decide) h) (hts (.arrayClass .int) (by decide +kernel)) rfl rfl (fun _ => rfl) (by decide +kernel) (by decide +kernel) (by decide +kernel) (by decide +kernel) (by decide +kernel) dX12_init_8 (by decide) (hts (.fieldLink RX12 7 "OptimaWorksModel" "big" "[I") (by decide +kernel)) rfl rfl (by decide +kernel) dX12_init_10 (fun q8 k8 H locs hK hP hD hS => ?_)
  obtain ⟨v8, ev8⟩ : ∃ w, w = mUp v0M 1 (.ref q8) := ⟨_, rfl⟩
  obtain ⟨a8, ea8⟩ : ∃ w, w = upF a0M 0 q8 := ⟨_, rfl⟩
  obtain ⟨f8, ef8⟩ : ∃ w, w = upF k0M 0 k8 := ⟨_, rfl⟩
  rw [← ev8, ← ea8, ← ef8] at hP hD
  rw [← ef8] at hK
  refine W.widen (k := 1) (n := 26400) (by decide +kernel) (by decide +kernel) ?_
  refine newRowM 1 (n := 48) (N' := 48) (k := 2) (index := 13) (atype := .long) (ty := .long) hx hb hts iX12_init_in12 hown hin hK hP hD hS hA hl dX12_init_13 (fun h => lv_bipush (v := 48) hx hb dX12_init_14 (by decide) h) (hts (.arrayClass .long) (by decide +kernel)) rfl rfl (fun _ => rfl) (by decide +kernel) (by decide +kernel) (by decide +kernel) (by decide +kernel) (by decide +kernel) dX12_init_16 (by decide) (hts (.fieldLink RX12 13 "OptimaWorksModel" "sum" "[J") (by decide +kernel)) rfl rfl (by decide +kernel) dX12_init_18 (fun q16 k16 H locs hK hP hD hS => ?_)
  obtain ⟨v16, ev16⟩ : ∃ w, w = mUp v8 2 (.ref q16) := ⟨_, rfl⟩
  obtain ⟨a16, ea16⟩ : ∃ w, w = upF a8 1 q16 := ⟨_, rfl⟩
  obtain ⟨f16, ef16⟩ : ∃ w, w = upF f8 1 k16 := ⟨_, rfl⟩
  rw [← ev16, ← ea16, ← ef16] at hP hD
  rw [← ef16] at hK
  refine W.widen (k := 2) (n := 26448) (by decide +kernel) (by decide +kernel) ?_
  refine newRowM 2 (n := 60) (N' := 60) (k := 3) (index := 17) (atype := .int) (ty := .int) hx hb hts iX12_init_in12 hown hin hK hP hD hS hA hl dX12_init_21 (fun h => lv_bipush (v := 60) hx hb dX12_init_22 (by decide) h) (hts (.arrayClass .int) (by decide +kernel)) rfl rfl (fun _ => rfl) (by decide +kernel) (by decide +kernel) (by decide +kernel) (by decide +kernel) (by decide +kernel) dX12_init_24 (by decide) (hts (.fieldLink RX12 17 "OptimaWorksModel" "rest" "[I") (by decide +kernel)) rfl rfl (by decide +kernel) dX12_init_26 (fun q24 k24 H locs hK hP hD hS => ?_)
  obtain ⟨v24, ev24⟩ : ∃ w, w = mUp v16 3 (.ref q24) := ⟨_, rfl⟩
  obtain ⟨a24, ea24⟩ : ∃ w, w = upF a16 2 q24 := ⟨_, rfl⟩
  obtain ⟨f24, ef24⟩ : ∃ w, w = upF f16 2 k24 := ⟨_, rfl⟩
  rw [← ev24, ← ea24, ← ef24] at hP hD
  rw [← ef24] at hK
  refine W.widen (k := 3) (n := 26508) (by decide +kernel) (by decide +kernel) ?_
  refine newRowM 3 (n := 30) (N' := 30) (k := 4) (index := 20) (atype := .int) (ty := .int) hx hb hts iX12_init_in12 hown hin hK hP hD hS hA hl dX12_init_29 (fun h => lv_bipush (v := 30) hx hb dX12_init_30 (by decide) h) (hts (.arrayClass .int) (by decide +kernel)) rfl rfl (fun _ => rfl) (by decide +kernel) (by decide +kernel) (by decide +kernel) (by decide +kernel) (by decide +kernel) dX12_init_32 (by decide) (hts (.fieldLink RX12 20 "OptimaWorksModel" "less" "[I") (by decide +kernel)) rfl rfl (by decide +kernel) dX12_init_34 (fun q32 k32 H locs hK hP hD hS => ?_)
  obtain ⟨v32, ev32⟩ : ∃ w, w = mUp v24 4 (.ref q32) := ⟨_, rfl⟩
  obtain ⟨a32, ea32⟩ : ∃ w, w = upF a24 3 q32 := ⟨_, rfl⟩
  obtain ⟨f32, ef32⟩ : ∃ w, w = upF f24 3 k32 := ⟨_, rfl⟩
  rw [← ev32, ← ea32, ← ef32] at hP hD
  rw [← ef32] at hK
  refine W.widen (k := 4) (n := 26538) (by decide +kernel) (by decide +kernel) ?_
  refine newRowM 4 (n := 46) (N' := 46) (k := 8) (index := 23) (atype := .int) (ty := .int) hx hb hts iX12_init_in12 hown hin hK hP hD hS hA hl dX12_init_37 (fun h => lv_bipush (v := 46) hx hb dX12_init_38 (by decide) h) (hts (.arrayClass .int) (by decide +kernel)) rfl rfl (fun _ => rfl) (by decide +kernel) (by decide +kernel) (by decide +kernel) (by decide +kernel) (by decide +kernel) dX12_init_40 (by decide) (hts (.fieldLink RX12 23 "OptimaWorksModel" "columnOf" "[I") (by decide +kernel)) rfl rfl (by decide +kernel) dX12_init_42 (fun q40 k40 H locs hK hP hD hS => ?_)
  obtain ⟨v40, ev40⟩ : ∃ w, w = mUp v32 8 (.ref q40) := ⟨_, rfl⟩
  obtain ⟨a40, ea40⟩ : ∃ w, w = upF a32 4 q40 := ⟨_, rfl⟩
  obtain ⟨f40, ef40⟩ : ∃ w, w = upF f32 4 k40 := ⟨_, rfl⟩
  rw [← ev40, ← ea40, ← ef40] at hP hD
  rw [← ef40] at hK
  refine W.widen (k := 5) (n := 26584) (by decide +kernel) (by decide +kernel) ?_
  refine newRowM 5 (n := 60) (N' := 60) (k := 9) (index := 26) (atype := .int) (ty := .int) hx hb hts iX12_init_in12 hown hin hK hP hD hS hA hl dX12_init_45 (fun h => lv_bipush (v := 60) hx hb dX12_init_46 (by decide) h) (hts (.arrayClass .int) (by decide +kernel)) rfl rfl (fun _ => rfl) (by decide +kernel) (by decide +kernel) (by decide +kernel) (by decide +kernel) (by decide +kernel) dX12_init_48 (by decide) (hts (.fieldLink RX12 26 "OptimaWorksModel" "rowOf" "[I") (by decide +kernel)) rfl rfl (by decide +kernel) dX12_init_50 (fun q48 k48 H locs hK hP hD hS => ?_)
  obtain ⟨v48, ev48⟩ : ∃ w, w = mUp v40 9 (.ref q48) := ⟨_, rfl⟩
  obtain ⟨a48, ea48⟩ : ∃ w, w = upF a40 5 q48 := ⟨_, rfl⟩
  obtain ⟨f48, ef48⟩ : ∃ w, w = upF f40 5 k48 := ⟨_, rfl⟩
  rw [← ev48, ← ea48, ← ef48] at hP hD
  rw [← ef48] at hK
  refine W.widen (k := 6) (n := 26644) (by decide +kernel) (by decide +kernel) ?_
  refine newRowM 6 (n := 46) (N' := 46) (k := 10) (index := 29) (atype := .boolean) (ty := .boolean) hx hb hts iX12_init_in12 hown hin hK hP hD hS hA hl dX12_init_53 (fun h => lv_bipush (v := 46) hx hb dX12_init_54 (by decide) h) (hts (.arrayClass .boolean) (by decide +kernel)) rfl rfl (fun _ => rfl) (by decide +kernel) (by decide +kernel) (by decide +kernel) (by decide +kernel) (by decide +kernel) dX12_init_56 (by decide) (hts (.fieldLink RX12 29 "OptimaWorksModel" "still" "[Z") (by decide +kernel)) rfl rfl (by decide +kernel) dX12_init_58 (fun q56 k56 H locs hK hP hD hS => ?_)
  obtain ⟨v56, ev56⟩ : ∃ w, w = mUp v48 10 (.ref q56) := ⟨_, rfl⟩
  obtain ⟨a56, ea56⟩ : ∃ w, w = upF a48 6 q56 := ⟨_, rfl⟩
  obtain ⟨f56, ef56⟩ : ∃ w, w = upF f48 6 k56 := ⟨_, rfl⟩
  rw [← ev56, ← ea56, ← ef56] at hP hD
  rw [← ef56] at hK
  refine W.widen (k := 7) (n := 26690) (by decide +kernel) (by decide +kernel) ?_
  refine newRowM 7 (n := 1000) (N' := 1000) (k := 13) (index := 33) (atype := .long) (ty := .long) hx hb hts iX12_init_in12 hown hin hK hP hD hS hA hl dX12_init_61 (fun h => lv_sipush (v := 1000) hx hb dX12_init_62 (by decide) h) (hts (.arrayClass .long) (by decide +kernel)) rfl rfl (fun _ => rfl) (by decide +kernel) (by decide +kernel) (by decide +kernel) (by decide +kernel) (by decide +kernel) dX12_init_65 (by decide) (hts (.fieldLink RX12 33 "OptimaWorksModel" "fast" "[J") (by decide +kernel)) rfl rfl (by decide +kernel) dX12_init_67 (fun q65 k65 H locs hK hP hD hS => ?_)
  obtain ⟨v65, ev65⟩ : ∃ w, w = mUp v56 13 (.ref q65) := ⟨_, rfl⟩
  obtain ⟨a65, ea65⟩ : ∃ w, w = upF a56 7 q65 := ⟨_, rfl⟩
  obtain ⟨f65, ef65⟩ : ∃ w, w = upF f56 7 k65 := ⟨_, rfl⟩
  rw [← ev65, ← ea65, ← ef65] at hP hD
  rw [← ef65] at hK
  refine W.widen (k := 8) (n := 27690) (by decide +kernel) (by decide +kernel) ?_
  refine newRowM 8 (n := 1000) (N' := 1000) (k := 14) (index := 36) (atype := .long) (ty := .long) hx hb hts iX12_init_in12 hown hin hK hP hD hS hA hl dX12_init_70 (fun h => lv_sipush (v := 1000) hx hb dX12_init_71 (by decide) h) (hts (.arrayClass .long) (by decide +kernel)) rfl rfl (fun _ => rfl) (by decide +kernel) (by decide +kernel) (by decide +kernel) (by decide +kernel) (by decide +kernel) dX12_init_74 (by decide) (hts (.fieldLink RX12 36 "OptimaWorksModel" "later" "[J") (by decide +kernel)) rfl rfl (by decide +kernel) dX12_init_76 (fun q74 k74 H locs hK hP hD hS => ?_)
  obtain ⟨v74, ev74⟩ : ∃ w, w = mUp v65 14 (.ref q74) := ⟨_, rfl⟩
  obtain ⟨a74, ea74⟩ : ∃ w, w = upF a65 8 q74 := ⟨_, rfl⟩
  obtain ⟨f74, ef74⟩ : ∃ w, w = upF f65 8 k74 := ⟨_, rfl⟩
  rw [← ev74, ← ea74, ← ef74] at hP hD
  rw [← ef74] at hK
  refine W.widen (k := 9) (n := 28690) (by decide +kernel) (by decide +kernel) ?_
  refine newRowM 9 (n := 4000) (N' := 4000) (k := 15) (index := 39) (atype := .byte) (ty := .byte) hx hb hts iX12_init_in12 hown hin hK hP hD hS hA hl dX12_init_79 (fun h => lv_sipush (v := 4000) hx hb dX12_init_80 (by decide) h) (hts (.arrayClass .byte) (by decide +kernel)) rfl rfl (fun _ => rfl) (by decide +kernel) (by decide +kernel) (by decide +kernel) (by decide +kernel) (by decide +kernel) dX12_init_83 (by decide) (hts (.fieldLink RX12 39 "OptimaWorksModel" "tape" "[B") (by decide +kernel)) rfl rfl (by decide +kernel) dX12_init_85 (fun q83 k83 H locs hK hP hD hS => ?_)
  obtain ⟨v83, ev83⟩ : ∃ w, w = mUp v74 15 (.ref q83) := ⟨_, rfl⟩
  obtain ⟨a83, ea83⟩ : ∃ w, w = upF a74 9 q83 := ⟨_, rfl⟩
  obtain ⟨f83, ef83⟩ : ∃ w, w = upF f74 9 k83 := ⟨_, rfl⟩
  rw [← ev83, ← ea83, ← ef83] at hP hD
  rw [← ef83] at hK
  refine W.widen (k := 10) (n := 32690) (by decide +kernel) (by decide +kernel) ?_
  refine newIntM (n := (-1)) (k := 22) (index := 43) hx hb hts iX12_init_in12 hown hK hP hD hS hl dX12_init_88 (fun h => lv_iconst (v := (-1)) hx hb dX12_init_89 (by decide) h) (by decide) (hts (.fieldLink RX12 43 "OptimaWorksModel" "place" "I") (by decide +kernel)) rfl rfl (by decide +kernel) dX12_init_90 (fun H locs hP hD hS => ?_)
  obtain ⟨v90, ev90⟩ : ∃ w, w = mUp v83 22 (.int (-1)) := ⟨_, rfl⟩
  rw [← ev90] at hP hD
  refine newIntM (n := (-1)) (k := 24) (index := 47) hx hb hts iX12_init_in12 hown hK hP hD hS hl dX12_init_93 (fun h => lv_iconst (v := (-1)) hx hb dX12_init_94 (by decide) h) (by decide) (hts (.fieldLink RX12 47 "OptimaWorksModel" "latestPlace" "I") (by decide +kernel)) rfl rfl (by decide +kernel) dX12_init_95 (fun H locs hP hD hS => ?_)
  obtain ⟨v95, ev95⟩ : ∃ w, w = mUp v90 24 (.int (-1)) := ⟨_, rfl⟩
  rw [← ev95] at hP hD
  refine newRowM 10 (n := 44) (N' := 44) (k := 26) (index := 50) (atype := .int) (ty := .int) hx hb hts iX12_init_in12 hown hin hK hP hD hS hA hl dX12_init_98 (fun h => lv_bipush (v := 44) hx hb dX12_init_99 (by decide) h) (hts (.arrayClass .int) (by decide +kernel)) rfl rfl (fun _ => rfl) (by decide +kernel) (by decide +kernel) (by decide +kernel) (by decide +kernel) (by decide +kernel) dX12_init_101 (by decide) (hts (.fieldLink RX12 50 "OptimaWorksModel" "nameKind" "[I") (by decide +kernel)) rfl rfl (by decide +kernel) dX12_init_103 (fun q101 k101 H locs hK hP hD hS => ?_)
  obtain ⟨v101, ev101⟩ : ∃ w, w = mUp v95 26 (.ref q101) := ⟨_, rfl⟩
  obtain ⟨a101, ea101⟩ : ∃ w, w = upF a83 10 q101 := ⟨_, rfl⟩
  obtain ⟨f101, ef101⟩ : ∃ w, w = upF f83 10 k101 := ⟨_, rfl⟩
  rw [← ev101, ← ea101, ← ef101] at hP hD
  rw [← ef101] at hK
  refine W.widen (k := 11) (n := 32734) (by decide +kernel) (by decide +kernel) ?_
  refine newRowM 11 (n := 44) (N' := 44) (k := 27) (index := 53) (atype := .int) (ty := .int) hx hb hts iX12_init_in12 hown hin hK hP hD hS hA hl dX12_init_106 (fun h => lv_bipush (v := 44) hx hb dX12_init_107 (by decide) h) (hts (.arrayClass .int) (by decide +kernel)) rfl rfl (fun _ => rfl) (by decide +kernel) (by decide +kernel) (by decide +kernel) (by decide +kernel) (by decide +kernel) dX12_init_109 (by decide) (hts (.fieldLink RX12 53 "OptimaWorksModel" "nameFrom" "[I") (by decide +kernel)) rfl rfl (by decide +kernel) dX12_init_111 (fun q109 k109 H locs hK hP hD hS => ?_)
  obtain ⟨v109, ev109⟩ : ∃ w, w = mUp v101 27 (.ref q109) := ⟨_, rfl⟩
  obtain ⟨a109, ea109⟩ : ∃ w, w = upF a101 11 q109 := ⟨_, rfl⟩
  obtain ⟨f109, ef109⟩ : ∃ w, w = upF f101 11 k109 := ⟨_, rfl⟩
  rw [← ev109, ← ea109, ← ef109] at hP hD
  rw [← ef109] at hK
  refine W.widen (k := 12) (n := 32778) (by decide +kernel) (by decide +kernel) ?_
  refine newRowM 12 (n := 44) (N' := 44) (k := 28) (index := 56) (atype := .int) (ty := .int) hx hb hts iX12_init_in12 hown hin hK hP hD hS hA hl dX12_init_114 (fun h => lv_bipush (v := 44) hx hb dX12_init_115 (by decide) h) (hts (.arrayClass .int) (by decide +kernel)) rfl rfl (fun _ => rfl) (by decide +kernel) (by decide +kernel) (by decide +kernel) (by decide +kernel) (by decide +kernel) dX12_init_117 (by decide) (hts (.fieldLink RX12 56 "OptimaWorksModel" "nameLong" "[I") (by decide +kernel)) rfl rfl (by decide +kernel) dX12_init_119 (fun q117 k117 H locs hK hP hD hS => ?_)
  obtain ⟨v117, ev117⟩ : ∃ w, w = mUp v109 28 (.ref q117) := ⟨_, rfl⟩
  obtain ⟨a117, ea117⟩ : ∃ w, w = upF a109 12 q117 := ⟨_, rfl⟩
  obtain ⟨f117, ef117⟩ : ∃ w, w = upF f109 12 k117 := ⟨_, rfl⟩
  rw [← ev117, ← ea117, ← ef117] at hP hD
  rw [← ef117] at hK
  refine W.widen (k := 13) (n := 32822) (by decide +kernel) (by decide +kernel) ?_
  refine newRowM 13 (n := 44) (N' := 44) (k := 29) (index := 59) (atype := .int) (ty := .int) hx hb hts iX12_init_in12 hown hin hK hP hD hS hA hl dX12_init_122 (fun h => lv_bipush (v := 44) hx hb dX12_init_123 (by decide) h) (hts (.arrayClass .int) (by decide +kernel)) rfl rfl (fun _ => rfl) (by decide +kernel) (by decide +kernel) (by decide +kernel) (by decide +kernel) (by decide +kernel) dX12_init_125 (by decide) (hts (.fieldLink RX12 59 "OptimaWorksModel" "nameOf" "[I") (by decide +kernel)) rfl rfl (by decide +kernel) dX12_init_127 (fun q125 k125 H locs hK hP hD hS => ?_)
  obtain ⟨v125, ev125⟩ : ∃ w, w = mUp v117 29 (.ref q125) := ⟨_, rfl⟩
  obtain ⟨a125, ea125⟩ : ∃ w, w = upF a117 13 q125 := ⟨_, rfl⟩
  obtain ⟨f125, ef125⟩ : ∃ w, w = upF f117 13 k125 := ⟨_, rfl⟩
  rw [← ev125, ← ea125, ← ef125] at hP hD
  rw [← ef125] at hK
  refine W.widen (k := 14) (n := 32866) (by decide +kernel) (by decide +kernel) ?_
  refine newRowM 14 (n := 60) (N' := 60) (k := 31) (index := 62) (atype := .int) (ty := .int) hx hb hts iX12_init_in12 hown hin hK hP hD hS hA hl dX12_init_130 (fun h => lv_bipush (v := 60) hx hb dX12_init_131 (by decide) h) (hts (.arrayClass .int) (by decide +kernel)) rfl rfl (fun _ => rfl) (by decide +kernel) (by decide +kernel) (by decide +kernel) (by decide +kernel) (by decide +kernel) dX12_init_133 (by decide) (hts (.fieldLink RX12 62 "OptimaWorksModel" "binderFrom" "[I") (by decide +kernel)) rfl rfl (by decide +kernel) dX12_init_135 (fun q133 k133 H locs hK hP hD hS => ?_)
  obtain ⟨v133, ev133⟩ : ∃ w, w = mUp v125 31 (.ref q133) := ⟨_, rfl⟩
  obtain ⟨a133, ea133⟩ : ∃ w, w = upF a125 14 q133 := ⟨_, rfl⟩
  obtain ⟨f133, ef133⟩ : ∃ w, w = upF f125 14 k133 := ⟨_, rfl⟩
  rw [← ev133, ← ea133, ← ef133] at hP hD
  rw [← ef133] at hK
  refine W.widen (k := 15) (n := 32926) (by decide +kernel) (by decide +kernel) ?_
  refine newRowM 15 (n := 60) (N' := 60) (k := 32) (index := 65) (atype := .int) (ty := .int) hx hb hts iX12_init_in12 hown hin hK hP hD hS hA hl dX12_init_138 (fun h => lv_bipush (v := 60) hx hb dX12_init_139 (by decide) h) (hts (.arrayClass .int) (by decide +kernel)) rfl rfl (fun _ => rfl) (by decide +kernel) (by decide +kernel) (by decide +kernel) (by decide +kernel) (by decide +kernel) dX12_init_141 (by decide) (hts (.fieldLink RX12 65 "OptimaWorksModel" "binderLong" "[I") (by decide +kernel)) rfl rfl (by decide +kernel) dX12_init_143 (fun q141 k141 H locs hK hP hD hS => ?_)
  obtain ⟨v141, ev141⟩ : ∃ w, w = mUp v133 32 (.ref q141) := ⟨_, rfl⟩
  obtain ⟨a141, ea141⟩ : ∃ w, w = upF a133 15 q141 := ⟨_, rfl⟩
  obtain ⟨f141, ef141⟩ : ∃ w, w = upF f133 15 k141 := ⟨_, rfl⟩
  rw [← ev141, ← ea141, ← ef141] at hP hD
  rw [← ef141] at hK
  refine W.widen (k := 16) (n := 32986) (by decide +kernel) (by decide +kernel) ?_
  refine newIntM (n := (-1)) (k := 33) (index := 68) hx hb hts iX12_init_in12 hown hK hP hD hS hl dX12_init_146 (fun h => lv_iconst (v := (-1)) hx hb dX12_init_147 (by decide) h) (by decide) (hts (.fieldLink RX12 68 "OptimaWorksModel" "ownFrom" "I") (by decide +kernel)) rfl rfl (by decide +kernel) dX12_init_148 (fun H locs hP hD hS => ?_)
  obtain ⟨v148, ev148⟩ : ∃ w, w = mUp v141 33 (.int (-1)) := ⟨_, rfl⟩
  rw [← ev148] at hP hD
  refine newRowM 16 (n := 44) (N' := 44) (k := 39) (index := 71) (atype := .int) (ty := .int) hx hb hts iX12_init_in12 hown hin hK hP hD hS hA hl dX12_init_151 (fun h => lv_bipush (v := 44) hx hb dX12_init_152 (by decide) h) (hts (.arrayClass .int) (by decide +kernel)) rfl rfl (fun _ => rfl) (by decide +kernel) (by decide +kernel) (by decide +kernel) (by decide +kernel) (by decide +kernel) dX12_init_154 (by decide) (hts (.fieldLink RX12 71 "OptimaWorksModel" "setLow" "[I") (by decide +kernel)) rfl rfl (by decide +kernel) dX12_init_156 (fun q154 k154 H locs hK hP hD hS => ?_)
  obtain ⟨v154, ev154⟩ : ∃ w, w = mUp v148 39 (.ref q154) := ⟨_, rfl⟩
  obtain ⟨a154, ea154⟩ : ∃ w, w = upF a141 16 q154 := ⟨_, rfl⟩
  obtain ⟨f154, ef154⟩ : ∃ w, w = upF f141 16 k154 := ⟨_, rfl⟩
  rw [← ev154, ← ea154, ← ef154] at hP hD
  rw [← ef154] at hK
  refine W.widen (k := 17) (n := 33030) (by decide +kernel) (by decide +kernel) ?_
  refine newRowM 17 (n := 44) (N' := 44) (k := 40) (index := 74) (atype := .int) (ty := .int) hx hb hts iX12_init_in12 hown hin hK hP hD hS hA hl dX12_init_159 (fun h => lv_bipush (v := 44) hx hb dX12_init_160 (by decide) h) (hts (.arrayClass .int) (by decide +kernel)) rfl rfl (fun _ => rfl) (by decide +kernel) (by decide +kernel) (by decide +kernel) (by decide +kernel) (by decide +kernel) dX12_init_162 (by decide) (hts (.fieldLink RX12 74 "OptimaWorksModel" "setMany" "[I") (by decide +kernel)) rfl rfl (by decide +kernel) dX12_init_164 (fun q162 k162 H locs hK hP hD hS => ?_)
  obtain ⟨v162, ev162⟩ : ∃ w, w = mUp v154 40 (.ref q162) := ⟨_, rfl⟩
  obtain ⟨a162, ea162⟩ : ∃ w, w = upF a154 17 q162 := ⟨_, rfl⟩
  obtain ⟨f162, ef162⟩ : ∃ w, w = upF f154 17 k162 := ⟨_, rfl⟩
  rw [← ev162, ← ea162, ← ef162] at hP hD
  rw [← ef162] at hK
  refine W.widen (k := 18) (n := 33074) (by decide +kernel) (by decide +kernel) ?_
  refine newRowM 18 (n := 44) (N' := 44) (k := 41) (index := 77) (atype := .int) (ty := .int) hx hb hts iX12_init_in12 hown hin hK hP hD hS hA hl dX12_init_167 (fun h => lv_bipush (v := 44) hx hb dX12_init_168 (by decide) h) (hts (.arrayClass .int) (by decide +kernel)) rfl rfl (fun _ => rfl) (by decide +kernel) (by decide +kernel) (by decide +kernel) (by decide +kernel) (by decide +kernel) dX12_init_170 (by decide) (hts (.fieldLink RX12 77 "OptimaWorksModel" "paramPlaces" "[I") (by decide +kernel)) rfl rfl (by decide +kernel) dX12_init_172 (fun q170 k170 H locs hK hP hD hS => ?_)
  obtain ⟨v170, ev170⟩ : ∃ w, w = mUp v162 41 (.ref q170) := ⟨_, rfl⟩
  obtain ⟨a170, ea170⟩ : ∃ w, w = upF a162 18 q170 := ⟨_, rfl⟩
  obtain ⟨f170, ef170⟩ : ∃ w, w = upF f162 18 k170 := ⟨_, rfl⟩
  rw [← ev170, ← ea170, ← ef170] at hP hD
  rw [← ef170] at hK
  refine W.widen (k := 19) (n := 33118) (by decide +kernel) (by decide +kernel) ?_
  refine newRowM 19 (n := 44) (N' := 44) (k := 42) (index := 80) (atype := .int) (ty := .int) hx hb hts iX12_init_in12 hown hin hK hP hD hS hA hl dX12_init_175 (fun h => lv_bipush (v := 44) hx hb dX12_init_176 (by decide) h) (hts (.arrayClass .int) (by decide +kernel)) rfl rfl (fun _ => rfl) (by decide +kernel) (by decide +kernel) (by decide +kernel) (by decide +kernel) (by decide +kernel) dX12_init_178 (by decide) (hts (.fieldLink RX12 80 "OptimaWorksModel" "paramOne" "[I") (by decide +kernel)) rfl rfl (by decide +kernel) dX12_init_180 (fun q178 k178 H locs hK hP hD hS => ?_)
  obtain ⟨v178, ev178⟩ : ∃ w, w = mUp v170 42 (.ref q178) := ⟨_, rfl⟩
  obtain ⟨a178, ea178⟩ : ∃ w, w = upF a170 19 q178 := ⟨_, rfl⟩
  obtain ⟨f178, ef178⟩ : ∃ w, w = upF f170 19 k178 := ⟨_, rfl⟩
  rw [← ev178, ← ea178, ← ef178] at hP hD
  rw [← ef178] at hK
  refine W.widen (k := 20) (n := 33162) (by decide +kernel) (by decide +kernel) ?_
  refine newRowM 20 (n := 44) (N' := 44) (k := 43) (index := 83) (atype := .int) (ty := .int) hx hb hts iX12_init_in12 hown hin hK hP hD hS hA hl dX12_init_183 (fun h => lv_bipush (v := 44) hx hb dX12_init_184 (by decide) h) (hts (.arrayClass .int) (by decide +kernel)) rfl rfl (fun _ => rfl) (by decide +kernel) (by decide +kernel) (by decide +kernel) (by decide +kernel) (by decide +kernel) dX12_init_186 (by decide) (hts (.fieldLink RX12 83 "OptimaWorksModel" "paramTwo" "[I") (by decide +kernel)) rfl rfl (by decide +kernel) dX12_init_188 (fun q186 k186 H locs hK hP hD hS => ?_)
  obtain ⟨v186, ev186⟩ : ∃ w, w = mUp v178 43 (.ref q186) := ⟨_, rfl⟩
  obtain ⟨a186, ea186⟩ : ∃ w, w = upF a178 20 q186 := ⟨_, rfl⟩
  obtain ⟨f186, ef186⟩ : ∃ w, w = upF f178 20 k186 := ⟨_, rfl⟩
  rw [← ev186, ← ea186, ← ef186] at hP hD
  rw [← ef186] at hK
  refine W.widen (k := 21) (n := 33206) (by decide +kernel) (by decide +kernel) ?_
  refine newRowM 21 (n := 44) (N' := 44) (k := 44) (index := 86) (atype := .int) (ty := .int) hx hb hts iX12_init_in12 hown hin hK hP hD hS hA hl dX12_init_191 (fun h => lv_bipush (v := 44) hx hb dX12_init_192 (by decide) h) (hts (.arrayClass .int) (by decide +kernel)) rfl rfl (fun _ => rfl) (by decide +kernel) (by decide +kernel) (by decide +kernel) (by decide +kernel) (by decide +kernel) dX12_init_194 (by decide) (hts (.fieldLink RX12 86 "OptimaWorksModel" "paramAt" "[I") (by decide +kernel)) rfl rfl (by decide +kernel) dX12_init_196 (fun q194 k194 H locs hK hP hD hS => ?_)
  obtain ⟨v194, ev194⟩ : ∃ w, w = mUp v186 44 (.ref q194) := ⟨_, rfl⟩
  obtain ⟨a194, ea194⟩ : ∃ w, w = upF a186 21 q194 := ⟨_, rfl⟩
  obtain ⟨f194, ef194⟩ : ∃ w, w = upF f186 21 k194 := ⟨_, rfl⟩
  rw [← ev194, ← ea194, ← ef194] at hP hD
  rw [← ef194] at hK
  refine W.widen (k := 22) (n := 33250) (by decide +kernel) (by decide +kernel) ?_
  refine newRowM 22 (n := 6400) (N' := 6400) (k := 45) (index := 89) (atype := .int) (ty := .int) hx hb hts iX12_init_in12 hown hin hK hP hD hS hA hl dX12_init_199 (fun h => lv_sipush (v := 6400) hx hb dX12_init_200 (by decide) h) (hts (.arrayClass .int) (by decide +kernel)) rfl rfl (fun _ => rfl) (by decide +kernel) (by decide +kernel) (by decide +kernel) (by decide +kernel) (by decide +kernel) dX12_init_203 (by decide) (hts (.fieldLink RX12 89 "OptimaWorksModel" "paramTop" "[I") (by decide +kernel)) rfl rfl (by decide +kernel) dX12_init_205 (fun q203 k203 H locs hK hP hD hS => ?_)
  obtain ⟨v203, ev203⟩ : ∃ w, w = mUp v194 45 (.ref q203) := ⟨_, rfl⟩
  obtain ⟨a203, ea203⟩ : ∃ w, w = upF a194 22 q203 := ⟨_, rfl⟩
  obtain ⟨f203, ef203⟩ : ∃ w, w = upF f194 22 k203 := ⟨_, rfl⟩
  rw [← ev203, ← ea203, ← ef203] at hP hD
  rw [← ef203] at hK
  refine W.widen (k := 23) (n := 39650) (by decide +kernel) (by decide +kernel) ?_
  refine newRowM 23 (n := 6400) (N' := 6400) (k := 46) (index := 92) (atype := .int) (ty := .int) hx hb hts iX12_init_in12 hown hin hK hP hD hS hA hl dX12_init_208 (fun h => lv_sipush (v := 6400) hx hb dX12_init_209 (by decide) h) (hts (.arrayClass .int) (by decide +kernel)) rfl rfl (fun _ => rfl) (by decide +kernel) (by decide +kernel) (by decide +kernel) (by decide +kernel) (by decide +kernel) dX12_init_212 (by decide) (hts (.fieldLink RX12 92 "OptimaWorksModel" "paramUnder" "[I") (by decide +kernel)) rfl rfl (by decide +kernel) dX12_init_214 (fun q212 k212 H locs hK hP hD hS => ?_)
  obtain ⟨v212, ev212⟩ : ∃ w, w = mUp v203 46 (.ref q212) := ⟨_, rfl⟩
  obtain ⟨a212, ea212⟩ : ∃ w, w = upF a203 23 q212 := ⟨_, rfl⟩
  obtain ⟨f212, ef212⟩ : ∃ w, w = upF f203 23 k212 := ⟨_, rfl⟩
  rw [← ev212, ← ea212, ← ef212] at hP hD
  rw [← ef212] at hK
  refine W.widen (k := 24) (n := 46050) (by decide +kernel) (by decide +kernel) ?_
  refine newRowM 24 (n := 44) (N' := 44) (k := 47) (index := 95) (atype := .int) (ty := .int) hx hb hts iX12_init_in12 hown hin hK hP hD hS hA hl dX12_init_217 (fun h => lv_bipush (v := 44) hx hb dX12_init_218 (by decide) h) (hts (.arrayClass .int) (by decide +kernel)) rfl rfl (fun _ => rfl) (by decide +kernel) (by decide +kernel) (by decide +kernel) (by decide +kernel) (by decide +kernel) dX12_init_220 (by decide) (hts (.fieldLink RX12 95 "OptimaWorksModel" "varPlaces" "[I") (by decide +kernel)) rfl rfl (by decide +kernel) dX12_init_222 (fun q220 k220 H locs hK hP hD hS => ?_)
  obtain ⟨v220, ev220⟩ : ∃ w, w = mUp v212 47 (.ref q220) := ⟨_, rfl⟩
  obtain ⟨a220, ea220⟩ : ∃ w, w = upF a212 24 q220 := ⟨_, rfl⟩
  obtain ⟨f220, ef220⟩ : ∃ w, w = upF f212 24 k220 := ⟨_, rfl⟩
  rw [← ev220, ← ea220, ← ef220] at hP hD
  rw [← ef220] at hK
  refine W.widen (k := 25) (n := 46094) (by decide +kernel) (by decide +kernel) ?_
  refine newRowM 25 (n := 44) (N' := 44) (k := 48) (index := 98) (atype := .int) (ty := .int) hx hb hts iX12_init_in12 hown hin hK hP hD hS hA hl dX12_init_225 (fun h => lv_bipush (v := 44) hx hb dX12_init_226 (by decide) h) (hts (.arrayClass .int) (by decide +kernel)) rfl rfl (fun _ => rfl) (by decide +kernel) (by decide +kernel) (by decide +kernel) (by decide +kernel) (by decide +kernel) dX12_init_228 (by decide) (hts (.fieldLink RX12 98 "OptimaWorksModel" "varOne" "[I") (by decide +kernel)) rfl rfl (by decide +kernel) dX12_init_230 (fun q228 k228 H locs hK hP hD hS => ?_)
  obtain ⟨v228, ev228⟩ : ∃ w, w = mUp v220 48 (.ref q228) := ⟨_, rfl⟩
  obtain ⟨a228, ea228⟩ : ∃ w, w = upF a220 25 q228 := ⟨_, rfl⟩
  obtain ⟨f228, ef228⟩ : ∃ w, w = upF f220 25 k228 := ⟨_, rfl⟩
  rw [← ev228, ← ea228, ← ef228] at hP hD
  rw [← ef228] at hK
  refine W.widen (k := 26) (n := 46138) (by decide +kernel) (by decide +kernel) ?_
  refine newRowM 26 (n := 44) (N' := 44) (k := 49) (index := 101) (atype := .int) (ty := .int) hx hb hts iX12_init_in12 hown hin hK hP hD hS hA hl dX12_init_233 (fun h => lv_bipush (v := 44) hx hb dX12_init_234 (by decide) h) (hts (.arrayClass .int) (by decide +kernel)) rfl rfl (fun _ => rfl) (by decide +kernel) (by decide +kernel) (by decide +kernel) (by decide +kernel) (by decide +kernel) dX12_init_236 (by decide) (hts (.fieldLink RX12 101 "OptimaWorksModel" "varTwo" "[I") (by decide +kernel)) rfl rfl (by decide +kernel) dX12_init_238 (fun q236 k236 H locs hK hP hD hS => ?_)
  obtain ⟨v236, ev236⟩ : ∃ w, w = mUp v228 49 (.ref q236) := ⟨_, rfl⟩
  obtain ⟨a236, ea236⟩ : ∃ w, w = upF a228 26 q236 := ⟨_, rfl⟩
  obtain ⟨f236, ef236⟩ : ∃ w, w = upF f228 26 k236 := ⟨_, rfl⟩
  rw [← ev236, ← ea236, ← ef236] at hP hD
  rw [← ef236] at hK
  refine W.widen (k := 27) (n := 46182) (by decide +kernel) (by decide +kernel) ?_
  refine newRowM 27 (n := 44) (N' := 44) (k := 50) (index := 104) (atype := .int) (ty := .int) hx hb hts iX12_init_in12 hown hin hK hP hD hS hA hl dX12_init_241 (fun h => lv_bipush (v := 44) hx hb dX12_init_242 (by decide) h) (hts (.arrayClass .int) (by decide +kernel)) rfl rfl (fun _ => rfl) (by decide +kernel) (by decide +kernel) (by decide +kernel) (by decide +kernel) (by decide +kernel) dX12_init_244 (by decide) (hts (.fieldLink RX12 104 "OptimaWorksModel" "varAt" "[I") (by decide +kernel)) rfl rfl (by decide +kernel) dX12_init_246 (fun q244 k244 H locs hK hP hD hS => ?_)
  obtain ⟨v244, ev244⟩ : ∃ w, w = mUp v236 50 (.ref q244) := ⟨_, rfl⟩
  obtain ⟨a244, ea244⟩ : ∃ w, w = upF a236 27 q244 := ⟨_, rfl⟩
  obtain ⟨f244, ef244⟩ : ∃ w, w = upF f236 27 k244 := ⟨_, rfl⟩
  rw [← ev244, ← ea244, ← ef244] at hP hD
  rw [← ef244] at hK
  refine W.widen (k := 28) (n := 46226) (by decide +kernel) (by decide +kernel) ?_
  refine newRowM 28 (n := 44) (N' := 44) (k := 51) (index := 107) (atype := .int) (ty := .int) hx hb hts iX12_init_in12 hown hin hK hP hD hS hA hl dX12_init_249 (fun h => lv_bipush (v := 44) hx hb dX12_init_250 (by decide) h) (hts (.arrayClass .int) (by decide +kernel)) rfl rfl (fun _ => rfl) (by decide +kernel) (by decide +kernel) (by decide +kernel) (by decide +kernel) (by decide +kernel) dX12_init_252 (by decide) (hts (.fieldLink RX12 107 "OptimaWorksModel" "varWhole" "[I") (by decide +kernel)) rfl rfl (by decide +kernel) dX12_init_254 (fun q252 k252 H locs hK hP hD hS => ?_)
  obtain ⟨v252, ev252⟩ : ∃ w, w = mUp v244 51 (.ref q252) := ⟨_, rfl⟩
  obtain ⟨a252, ea252⟩ : ∃ w, w = upF a244 28 q252 := ⟨_, rfl⟩
  obtain ⟨f252, ef252⟩ : ∃ w, w = upF f244 28 k252 := ⟨_, rfl⟩
  rw [← ev252, ← ea252, ← ef252] at hP hD
  rw [← ef252] at hK
  refine W.widen (k := 29) (n := 46270) (by decide +kernel) (by decide +kernel) ?_
  refine newRowM 29 (n := 4200) (N' := 4200) (k := 53) (index := 110) (atype := .int) (ty := .int) hx hb hts iX12_init_in12 hown hin hK hP hD hS hA hl dX12_init_257 (fun h => lv_sipush (v := 4200) hx hb dX12_init_258 (by decide) h) (hts (.arrayClass .int) (by decide +kernel)) rfl rfl (fun _ => rfl) (by decide +kernel) (by decide +kernel) (by decide +kernel) (by decide +kernel) (by decide +kernel) dX12_init_261 (by decide) (hts (.fieldLink RX12 110 "OptimaWorksModel" "kind" "[I") (by decide +kernel)) rfl rfl (by decide +kernel) dX12_init_263 (fun q261 k261 H locs hK hP hD hS => ?_)
  obtain ⟨v261, ev261⟩ : ∃ w, w = mUp v252 53 (.ref q261) := ⟨_, rfl⟩
  obtain ⟨a261, ea261⟩ : ∃ w, w = upF a252 29 q261 := ⟨_, rfl⟩
  obtain ⟨f261, ef261⟩ : ∃ w, w = upF f252 29 k261 := ⟨_, rfl⟩
  rw [← ev261, ← ea261, ← ef261] at hP hD
  rw [← ef261] at hK
  refine W.widen (k := 30) (n := 50470) (by decide +kernel) (by decide +kernel) ?_
  refine newRowM 30 (n := 4200) (N' := 4200) (k := 54) (index := 113) (atype := .int) (ty := .int) hx hb hts iX12_init_in12 hown hin hK hP hD hS hA hl dX12_init_266 (fun h => lv_sipush (v := 4200) hx hb dX12_init_267 (by decide) h) (hts (.arrayClass .int) (by decide +kernel)) rfl rfl (fun _ => rfl) (by decide +kernel) (by decide +kernel) (by decide +kernel) (by decide +kernel) (by decide +kernel) dX12_init_270 (by decide) (hts (.fieldLink RX12 113 "OptimaWorksModel" "partA" "[I") (by decide +kernel)) rfl rfl (by decide +kernel) dX12_init_272 (fun q270 k270 H locs hK hP hD hS => ?_)
  obtain ⟨v270, ev270⟩ : ∃ w, w = mUp v261 54 (.ref q270) := ⟨_, rfl⟩
  obtain ⟨a270, ea270⟩ : ∃ w, w = upF a261 30 q270 := ⟨_, rfl⟩
  obtain ⟨f270, ef270⟩ : ∃ w, w = upF f261 30 k270 := ⟨_, rfl⟩
  rw [← ev270, ← ea270, ← ef270] at hP hD
  rw [← ef270] at hK
  refine W.widen (k := 31) (n := 54670) (by decide +kernel) (by decide +kernel) ?_
  refine newRowM 31 (n := 4200) (N' := 4200) (k := 55) (index := 116) (atype := .int) (ty := .int) hx hb hts iX12_init_in12 hown hin hK hP hD hS hA hl dX12_init_275 (fun h => lv_sipush (v := 4200) hx hb dX12_init_276 (by decide) h) (hts (.arrayClass .int) (by decide +kernel)) rfl rfl (fun _ => rfl) (by decide +kernel) (by decide +kernel) (by decide +kernel) (by decide +kernel) (by decide +kernel) dX12_init_279 (by decide) (hts (.fieldLink RX12 116 "OptimaWorksModel" "partB" "[I") (by decide +kernel)) rfl rfl (by decide +kernel) dX12_init_281 (fun q279 k279 H locs hK hP hD hS => ?_)
  obtain ⟨v279, ev279⟩ : ∃ w, w = mUp v270 55 (.ref q279) := ⟨_, rfl⟩
  obtain ⟨a279, ea279⟩ : ∃ w, w = upF a270 31 q279 := ⟨_, rfl⟩
  obtain ⟨f279, ef279⟩ : ∃ w, w = upF f270 31 k279 := ⟨_, rfl⟩
  rw [← ev279, ← ea279, ← ef279] at hP hD
  rw [← ef279] at hK
  refine W.widen (k := 32) (n := 58870) (by decide +kernel) (by decide +kernel) ?_
  refine newRowM 32 (n := 4200) (N' := 4200) (k := 56) (index := 119) (atype := .int) (ty := .int) hx hb hts iX12_init_in12 hown hin hK hP hD hS hA hl dX12_init_284 (fun h => lv_sipush (v := 4200) hx hb dX12_init_285 (by decide) h) (hts (.arrayClass .int) (by decide +kernel)) rfl rfl (fun _ => rfl) (by decide +kernel) (by decide +kernel) (by decide +kernel) (by decide +kernel) (by decide +kernel) dX12_init_288 (by decide) (hts (.fieldLink RX12 119 "OptimaWorksModel" "partC" "[I") (by decide +kernel)) rfl rfl (by decide +kernel) dX12_init_290 (fun q288 k288 H locs hK hP hD hS => ?_)
  obtain ⟨v288, ev288⟩ : ∃ w, w = mUp v279 56 (.ref q288) := ⟨_, rfl⟩
  obtain ⟨a288, ea288⟩ : ∃ w, w = upF a279 32 q288 := ⟨_, rfl⟩
  obtain ⟨f288, ef288⟩ : ∃ w, w = upF f279 32 k288 := ⟨_, rfl⟩
  rw [← ev288, ← ea288, ← ef288] at hP hD
  rw [← ef288] at hK
  refine W.widen (k := 33) (n := 63070) (by decide +kernel) (by decide +kernel) ?_
  refine newRowM 33 (n := 4200) (N' := 4200) (k := 57) (index := 122) (atype := .int) (ty := .int) hx hb hts iX12_init_in12 hown hin hK hP hD hS hA hl dX12_init_293 (fun h => lv_sipush (v := 4200) hx hb dX12_init_294 (by decide) h) (hts (.arrayClass .int) (by decide +kernel)) rfl rfl (fun _ => rfl) (by decide +kernel) (by decide +kernel) (by decide +kernel) (by decide +kernel) (by decide +kernel) dX12_init_297 (by decide) (hts (.fieldLink RX12 122 "OptimaWorksModel" "where" "[I") (by decide +kernel)) rfl rfl (by decide +kernel) dX12_init_299 (fun q297 k297 H locs hK hP hD hS => ?_)
  obtain ⟨v297, ev297⟩ : ∃ w, w = mUp v288 57 (.ref q297) := ⟨_, rfl⟩
  obtain ⟨a297, ea297⟩ : ∃ w, w = upF a288 33 q297 := ⟨_, rfl⟩
  obtain ⟨f297, ef297⟩ : ∃ w, w = upF f288 33 k297 := ⟨_, rfl⟩
  rw [← ev297, ← ea297, ← ef297] at hP hD
  rw [← ef297] at hK
  refine W.widen (k := 34) (n := 67270) (by decide +kernel) (by decide +kernel) ?_
  refine newRowM 34 (n := 4200) (N' := 4200) (k := 58) (index := 125) (atype := .int) (ty := .int) hx hb hts iX12_init_in12 hown hin hK hP hD hS hA hl dX12_init_302 (fun h => lv_sipush (v := 4200) hx hb dX12_init_303 (by decide) h) (hts (.arrayClass .int) (by decide +kernel)) rfl rfl (fun _ => rfl) (by decide +kernel) (by decide +kernel) (by decide +kernel) (by decide +kernel) (by decide +kernel) dX12_init_306 (by decide) (hts (.fieldLink RX12 125 "OptimaWorksModel" "firstA" "[I") (by decide +kernel)) rfl rfl (by decide +kernel) dX12_init_308 (fun q306 k306 H locs hK hP hD hS => ?_)
  obtain ⟨v306, ev306⟩ : ∃ w, w = mUp v297 58 (.ref q306) := ⟨_, rfl⟩
  obtain ⟨a306, ea306⟩ : ∃ w, w = upF a297 34 q306 := ⟨_, rfl⟩
  obtain ⟨f306, ef306⟩ : ∃ w, w = upF f297 34 k306 := ⟨_, rfl⟩
  rw [← ev306, ← ea306, ← ef306] at hP hD
  rw [← ef306] at hK
  refine W.widen (k := 35) (n := 71470) (by decide +kernel) (by decide +kernel) ?_
  refine newRowM 35 (n := 4200) (N' := 4200) (k := 59) (index := 128) (atype := .int) (ty := .int) hx hb hts iX12_init_in12 hown hin hK hP hD hS hA hl dX12_init_311 (fun h => lv_sipush (v := 4200) hx hb dX12_init_312 (by decide) h) (hts (.arrayClass .int) (by decide +kernel)) rfl rfl (fun _ => rfl) (by decide +kernel) (by decide +kernel) (by decide +kernel) (by decide +kernel) (by decide +kernel) dX12_init_315 (by decide) (hts (.fieldLink RX12 128 "OptimaWorksModel" "firstB" "[I") (by decide +kernel)) rfl rfl (by decide +kernel) dX12_init_317 (fun q315 k315 H locs hK hP hD hS => ?_)
  obtain ⟨v315, ev315⟩ : ∃ w, w = mUp v306 59 (.ref q315) := ⟨_, rfl⟩
  obtain ⟨a315, ea315⟩ : ∃ w, w = upF a306 35 q315 := ⟨_, rfl⟩
  obtain ⟨f315, ef315⟩ : ∃ w, w = upF f306 35 k315 := ⟨_, rfl⟩
  rw [← ev315, ← ea315, ← ef315] at hP hD
  rw [← ef315] at hK
  refine W.widen (k := 36) (n := 75670) (by decide +kernel) (by decide +kernel) ?_
  refine newRowM 36 (n := 900) (N' := 900) (k := 61) (index := 131) (atype := .int) (ty := .int) hx hb hts iX12_init_in12 hown hin hK hP hD hS hA hl dX12_init_320 (fun h => lv_sipush (v := 900) hx hb dX12_init_321 (by decide) h) (hts (.arrayClass .int) (by decide +kernel)) rfl rfl (fun _ => rfl) (by decide +kernel) (by decide +kernel) (by decide +kernel) (by decide +kernel) (by decide +kernel) dX12_init_324 (by decide) (hts (.fieldLink RX12 131 "OptimaWorksModel" "bindOne" "[I") (by decide +kernel)) rfl rfl (by decide +kernel) dX12_init_326 (fun q324 k324 H locs hK hP hD hS => ?_)
  obtain ⟨v324, ev324⟩ : ∃ w, w = mUp v315 61 (.ref q324) := ⟨_, rfl⟩
  obtain ⟨a324, ea324⟩ : ∃ w, w = upF a315 36 q324 := ⟨_, rfl⟩
  obtain ⟨f324, ef324⟩ : ∃ w, w = upF f315 36 k324 := ⟨_, rfl⟩
  rw [← ev324, ← ea324, ← ef324] at hP hD
  rw [← ef324] at hK
  refine W.widen (k := 37) (n := 76570) (by decide +kernel) (by decide +kernel) ?_
  refine newRowM 37 (n := 900) (N' := 900) (k := 62) (index := 134) (atype := .int) (ty := .int) hx hb hts iX12_init_in12 hown hin hK hP hD hS hA hl dX12_init_329 (fun h => lv_sipush (v := 900) hx hb dX12_init_330 (by decide) h) (hts (.arrayClass .int) (by decide +kernel)) rfl rfl (fun _ => rfl) (by decide +kernel) (by decide +kernel) (by decide +kernel) (by decide +kernel) (by decide +kernel) dX12_init_333 (by decide) (hts (.fieldLink RX12 134 "OptimaWorksModel" "bindTwo" "[I") (by decide +kernel)) rfl rfl (by decide +kernel) dX12_init_335 (fun q333 k333 H locs hK hP hD hS => ?_)
  obtain ⟨v333, ev333⟩ : ∃ w, w = mUp v324 62 (.ref q333) := ⟨_, rfl⟩
  obtain ⟨a333, ea333⟩ : ∃ w, w = upF a324 37 q333 := ⟨_, rfl⟩
  obtain ⟨f333, ef333⟩ : ∃ w, w = upF f324 37 k333 := ⟨_, rfl⟩
  rw [← ev333, ← ea333, ← ef333] at hP hD
  rw [← ef333] at hK
  refine W.widen (k := 38) (n := 77470) (by decide +kernel) (by decide +kernel) ?_
  refine newRowM 38 (n := 900) (N' := 900) (k := 63) (index := 137) (atype := .int) (ty := .int) hx hb hts iX12_init_in12 hown hin hK hP hD hS hA hl dX12_init_338 (fun h => lv_sipush (v := 900) hx hb dX12_init_339 (by decide) h) (hts (.arrayClass .int) (by decide +kernel)) rfl rfl (fun _ => rfl) (by decide +kernel) (by decide +kernel) (by decide +kernel) (by decide +kernel) (by decide +kernel) dX12_init_342 (by decide) (hts (.fieldLink RX12 137 "OptimaWorksModel" "bindAt" "[I") (by decide +kernel)) rfl rfl (by decide +kernel) dX12_init_344 (fun q342 k342 H locs hK hP hD hS => ?_)
  obtain ⟨v342, ev342⟩ : ∃ w, w = mUp v333 63 (.ref q342) := ⟨_, rfl⟩
  obtain ⟨a342, ea342⟩ : ∃ w, w = upF a333 38 q342 := ⟨_, rfl⟩
  obtain ⟨f342, ef342⟩ : ∃ w, w = upF f333 38 k342 := ⟨_, rfl⟩
  rw [← ev342, ← ea342, ← ef342] at hP hD
  rw [← ef342] at hK
  refine W.widen (k := 39) (n := 78370) (by decide +kernel) (by decide +kernel) ?_
  refine newRowM 39 (n := 120) (N' := 120) (k := 64) (index := 140) (atype := .int) (ty := .int) hx hb hts iX12_init_in12 hown hin hK hP hD hS hA hl dX12_init_347 (fun h => lv_bipush (v := 120) hx hb dX12_init_348 (by decide) h) (hts (.arrayClass .int) (by decide +kernel)) rfl rfl (fun _ => rfl) (by decide +kernel) (by decide +kernel) (by decide +kernel) (by decide +kernel) (by decide +kernel) dX12_init_350 (by decide) (hts (.fieldLink RX12 140 "OptimaWorksModel" "what" "[I") (by decide +kernel)) rfl rfl (by decide +kernel) dX12_init_352 (fun q350 k350 H locs hK hP hD hS => ?_)
  obtain ⟨v350, ev350⟩ : ∃ w, w = mUp v342 64 (.ref q350) := ⟨_, rfl⟩
  obtain ⟨a350, ea350⟩ : ∃ w, w = upF a342 39 q350 := ⟨_, rfl⟩
  obtain ⟨f350, ef350⟩ : ∃ w, w = upF f342 39 k350 := ⟨_, rfl⟩
  rw [← ev350, ← ea350, ← ef350] at hP hD
  rw [← ef350] at hK
  refine W.widen (k := 40) (n := 78490) (by decide +kernel) (by decide +kernel) ?_
  refine newRowM 40 (n := 120) (N' := 120) (k := 65) (index := 143) (atype := .int) (ty := .int) hx hb hts iX12_init_in12 hown hin hK hP hD hS hA hl dX12_init_355 (fun h => lv_bipush (v := 120) hx hb dX12_init_356 (by decide) h) (hts (.arrayClass .int) (by decide +kernel)) rfl rfl (fun _ => rfl) (by decide +kernel) (by decide +kernel) (by decide +kernel) (by decide +kernel) (by decide +kernel) dX12_init_358 (by decide) (hts (.fieldLink RX12 143 "OptimaWorksModel" "step" "[I") (by decide +kernel)) rfl rfl (by decide +kernel) dX12_init_360 (fun q358 k358 H locs hK hP hD hS => ?_)
  obtain ⟨v358, ev358⟩ : ∃ w, w = mUp v350 65 (.ref q358) := ⟨_, rfl⟩
  obtain ⟨a358, ea358⟩ : ∃ w, w = upF a350 40 q358 := ⟨_, rfl⟩
  obtain ⟨f358, ef358⟩ : ∃ w, w = upF f350 40 k358 := ⟨_, rfl⟩
  rw [← ev358, ← ea358, ← ef358] at hP hD
  rw [← ef358] at hK
  refine W.widen (k := 41) (n := 78610) (by decide +kernel) (by decide +kernel) ?_
  refine newRowM 41 (n := 120) (N' := 120) (k := 66) (index := 146) (atype := .int) (ty := .int) hx hb hts iX12_init_in12 hown hin hK hP hD hS hA hl dX12_init_363 (fun h => lv_bipush (v := 120) hx hb dX12_init_364 (by decide) h) (hts (.arrayClass .int) (by decide +kernel)) rfl rfl (fun _ => rfl) (by decide +kernel) (by decide +kernel) (by decide +kernel) (by decide +kernel) (by decide +kernel) dX12_init_366 (by decide) (hts (.fieldLink RX12 146 "OptimaWorksModel" "got1" "[I") (by decide +kernel)) rfl rfl (by decide +kernel) dX12_init_368 (fun q366 k366 H locs hK hP hD hS => ?_)
  obtain ⟨v366, ev366⟩ : ∃ w, w = mUp v358 66 (.ref q366) := ⟨_, rfl⟩
  obtain ⟨a366, ea366⟩ : ∃ w, w = upF a358 41 q366 := ⟨_, rfl⟩
  obtain ⟨f366, ef366⟩ : ∃ w, w = upF f358 41 k366 := ⟨_, rfl⟩
  rw [← ev366, ← ea366, ← ef366] at hP hD
  rw [← ef366] at hK
  refine W.widen (k := 42) (n := 78730) (by decide +kernel) (by decide +kernel) ?_
  refine newRowM 42 (n := 120) (N' := 120) (k := 67) (index := 149) (atype := .int) (ty := .int) hx hb hts iX12_init_in12 hown hin hK hP hD hS hA hl dX12_init_371 (fun h => lv_bipush (v := 120) hx hb dX12_init_372 (by decide) h) (hts (.arrayClass .int) (by decide +kernel)) rfl rfl (fun _ => rfl) (by decide +kernel) (by decide +kernel) (by decide +kernel) (by decide +kernel) (by decide +kernel) dX12_init_374 (by decide) (hts (.fieldLink RX12 149 "OptimaWorksModel" "got2" "[I") (by decide +kernel)) rfl rfl (by decide +kernel) dX12_init_376 (fun q374 k374 H locs hK hP hD hS => ?_)
  obtain ⟨v374, ev374⟩ : ∃ w, w = mUp v366 67 (.ref q374) := ⟨_, rfl⟩
  obtain ⟨a374, ea374⟩ : ∃ w, w = upF a366 42 q374 := ⟨_, rfl⟩
  obtain ⟨f374, ef374⟩ : ∃ w, w = upF f366 42 k374 := ⟨_, rfl⟩
  rw [← ev374, ← ea374, ← ef374] at hP hD
  rw [← ef374] at hK
  refine W.widen (k := 43) (n := 78850) (by decide +kernel) (by decide +kernel) ?_
  refine newRowM 43 (n := 120) (N' := 120) (k := 68) (index := 152) (atype := .int) (ty := .int) hx hb hts iX12_init_in12 hown hin hK hP hD hS hA hl dX12_init_379 (fun h => lv_bipush (v := 120) hx hb dX12_init_380 (by decide) h) (hts (.arrayClass .int) (by decide +kernel)) rfl rfl (fun _ => rfl) (by decide +kernel) (by decide +kernel) (by decide +kernel) (by decide +kernel) (by decide +kernel) dX12_init_382 (by decide) (hts (.fieldLink RX12 152 "OptimaWorksModel" "sign1" "[I") (by decide +kernel)) rfl rfl (by decide +kernel) dX12_init_384 (fun q382 k382 H locs hK hP hD hS => ?_)
  obtain ⟨v382, ev382⟩ : ∃ w, w = mUp v374 68 (.ref q382) := ⟨_, rfl⟩
  obtain ⟨a382, ea382⟩ : ∃ w, w = upF a374 43 q382 := ⟨_, rfl⟩
  obtain ⟨f382, ef382⟩ : ∃ w, w = upF f374 43 k382 := ⟨_, rfl⟩
  rw [← ev382, ← ea382, ← ef382] at hP hD
  rw [← ef382] at hK
  refine W.widen (k := 44) (n := 78970) (by decide +kernel) (by decide +kernel) ?_
  refine newRowM 44 (n := 120) (N' := 120) (k := 69) (index := 155) (atype := .int) (ty := .int) hx hb hts iX12_init_in12 hown hin hK hP hD hS hA hl dX12_init_387 (fun h => lv_bipush (v := 120) hx hb dX12_init_388 (by decide) h) (hts (.arrayClass .int) (by decide +kernel)) rfl rfl (fun _ => rfl) (by decide +kernel) (by decide +kernel) (by decide +kernel) (by decide +kernel) (by decide +kernel) dX12_init_390 (by decide) (hts (.fieldLink RX12 155 "OptimaWorksModel" "sign2" "[I") (by decide +kernel)) rfl rfl (by decide +kernel) dX12_init_392 (fun q390 k390 H locs hK hP hD hS => ?_)
  obtain ⟨v390, ev390⟩ : ∃ w, w = mUp v382 69 (.ref q390) := ⟨_, rfl⟩
  obtain ⟨a390, ea390⟩ : ∃ w, w = upF a382 44 q390 := ⟨_, rfl⟩
  obtain ⟨f390, ef390⟩ : ∃ w, w = upF f382 44 k390 := ⟨_, rfl⟩
  rw [← ev390, ← ea390, ← ef390] at hP hD
  rw [← ef390] at hK
  refine W.widen (k := 45) (n := 79090) (by decide +kernel) (by decide +kernel) ?_
  refine newRowM 45 (n := 120) (N' := 120) (k := 70) (index := 158) (atype := .int) (ty := .int) hx hb hts iX12_init_in12 hown hin hK hP hD hS hA hl dX12_init_395 (fun h => lv_bipush (v := 120) hx hb dX12_init_396 (by decide) h) (hts (.arrayClass .int) (by decide +kernel)) rfl rfl (fun _ => rfl) (by decide +kernel) (by decide +kernel) (by decide +kernel) (by decide +kernel) (by decide +kernel) dX12_init_398 (by decide) (hts (.fieldLink RX12 158 "OptimaWorksModel" "at1" "[I") (by decide +kernel)) rfl rfl (by decide +kernel) dX12_init_400 (fun q398 k398 H locs hK hP hD hS => ?_)
  obtain ⟨v398, ev398⟩ : ∃ w, w = mUp v390 70 (.ref q398) := ⟨_, rfl⟩
  obtain ⟨a398, ea398⟩ : ∃ w, w = upF a390 45 q398 := ⟨_, rfl⟩
  obtain ⟨f398, ef398⟩ : ∃ w, w = upF f390 45 k398 := ⟨_, rfl⟩
  rw [← ev398, ← ea398, ← ef398] at hP hD
  rw [← ef398] at hK
  refine W.widen (k := 46) (n := 79210) (by decide +kernel) (by decide +kernel) ?_
  refine newRowM 46 (n := 120) (N' := 120) (k := 71) (index := 161) (atype := .int) (ty := .int) hx hb hts iX12_init_in12 hown hin hK hP hD hS hA hl dX12_init_403 (fun h => lv_bipush (v := 120) hx hb dX12_init_404 (by decide) h) (hts (.arrayClass .int) (by decide +kernel)) rfl rfl (fun _ => rfl) (by decide +kernel) (by decide +kernel) (by decide +kernel) (by decide +kernel) (by decide +kernel) dX12_init_406 (by decide) (hts (.fieldLink RX12 161 "OptimaWorksModel" "at2" "[I") (by decide +kernel)) rfl rfl (by decide +kernel) dX12_init_408 (fun q406 k406 H locs hK hP hD hS => ?_)
  obtain ⟨v406, ev406⟩ : ∃ w, w = mUp v398 71 (.ref q406) := ⟨_, rfl⟩
  obtain ⟨a406, ea406⟩ : ∃ w, w = upF a398 46 q406 := ⟨_, rfl⟩
  obtain ⟨f406, ef406⟩ : ∃ w, w = upF f398 46 k406 := ⟨_, rfl⟩
  rw [← ev406, ← ea406, ← ef406] at hP hD
  rw [← ef406] at hK
  refine W.widen (k := 47) (n := 79330) (by decide +kernel) (by decide +kernel) ?_
  refine newRowM 47 (n := 120) (N' := 120) (k := 72) (index := 164) (atype := .int) (ty := .int) hx hb hts iX12_init_in12 hown hin hK hP hD hS hA hl dX12_init_411 (fun h => lv_bipush (v := 120) hx hb dX12_init_412 (by decide) h) (hts (.arrayClass .int) (by decide +kernel)) rfl rfl (fun _ => rfl) (by decide +kernel) (by decide +kernel) (by decide +kernel) (by decide +kernel) (by decide +kernel) dX12_init_414 (by decide) (hts (.fieldLink RX12 164 "OptimaWorksModel" "begins" "[I") (by decide +kernel)) rfl rfl (by decide +kernel) dX12_init_416 (fun q414 k414 H locs hK hP hD hS => ?_)
  obtain ⟨v414, ev414⟩ : ∃ w, w = mUp v406 72 (.ref q414) := ⟨_, rfl⟩
  obtain ⟨a414, ea414⟩ : ∃ w, w = upF a406 47 q414 := ⟨_, rfl⟩
  obtain ⟨f414, ef414⟩ : ∃ w, w = upF f406 47 k414 := ⟨_, rfl⟩
  rw [← ev414, ← ea414, ← ef414] at hP hD
  rw [← ef414] at hK
  refine W.widen (k := 48) (n := 79450) (by decide +kernel) (by decide +kernel) ?_
  refine newRowM 48 (n := 120) (N' := 120) (k := 73) (index := 167) (atype := .int) (ty := .int) hx hb hts iX12_init_in12 hown hin hK hP hD hS hA hl dX12_init_419 (fun h => lv_bipush (v := 120) hx hb dX12_init_420 (by decide) h) (hts (.arrayClass .int) (by decide +kernel)) rfl rfl (fun _ => rfl) (by decide +kernel) (by decide +kernel) (by decide +kernel) (by decide +kernel) (by decide +kernel) dX12_init_422 (by decide) (hts (.fieldLink RX12 167 "OptimaWorksModel" "extra" "[I") (by decide +kernel)) rfl rfl (by decide +kernel) dX12_init_424 (fun q422 k422 H locs hK hP hD hS => ?_)
  obtain ⟨v422, ev422⟩ : ∃ w, w = mUp v414 73 (.ref q422) := ⟨_, rfl⟩
  obtain ⟨a422, ea422⟩ : ∃ w, w = upF a414 48 q422 := ⟨_, rfl⟩
  obtain ⟨f422, ef422⟩ : ∃ w, w = upF f414 48 k422 := ⟨_, rfl⟩
  rw [← ev422, ← ea422, ← ef422] at hP hD
  rw [← ef422] at hK
  refine W.widen (k := 49) (n := 79570) (by decide +kernel) (by decide +kernel) ?_
  refine newRowM 49 (n := 900) (N' := 900) (k := 78) (index := 170) (atype := .int) (ty := .int) hx hb hts iX12_init_in12 hown hin hK hP hD hS hA hl dX12_init_427 (fun h => lv_sipush (v := 900) hx hb dX12_init_428 (by decide) h) (hts (.arrayClass .int) (by decide +kernel)) rfl rfl (fun _ => rfl) (by decide +kernel) (by decide +kernel) (by decide +kernel) (by decide +kernel) (by decide +kernel) dX12_init_431 (by decide) (hts (.fieldLink RX12 170 "OptimaWorksModel" "top" "[I") (by decide +kernel)) rfl rfl (by decide +kernel) dX12_init_433 (fun q431 k431 H locs hK hP hD hS => ?_)
  obtain ⟨v431, ev431⟩ : ∃ w, w = mUp v422 78 (.ref q431) := ⟨_, rfl⟩
  obtain ⟨a431, ea431⟩ : ∃ w, w = upF a422 49 q431 := ⟨_, rfl⟩
  obtain ⟨f431, ef431⟩ : ∃ w, w = upF f422 49 k431 := ⟨_, rfl⟩
  rw [← ev431, ← ea431, ← ef431] at hP hD
  rw [← ef431] at hK
  refine W.widen (k := 50) (n := 80470) (by decide +kernel) (by decide +kernel) ?_
  refine newRowM 50 (n := 900) (N' := 900) (k := 79) (index := 173) (atype := .int) (ty := .int) hx hb hts iX12_init_in12 hown hin hK hP hD hS hA hl dX12_init_436 (fun h => lv_sipush (v := 900) hx hb dX12_init_437 (by decide) h) (hts (.arrayClass .int) (by decide +kernel)) rfl rfl (fun _ => rfl) (by decide +kernel) (by decide +kernel) (by decide +kernel) (by decide +kernel) (by decide +kernel) dX12_init_440 (by decide) (hts (.fieldLink RX12 173 "OptimaWorksModel" "under" "[I") (by decide +kernel)) rfl rfl (by decide +kernel) dX12_init_442 (fun q440 k440 H locs hK hP hD hS => ?_)
  obtain ⟨v440, ev440⟩ : ∃ w, w = mUp v431 79 (.ref q440) := ⟨_, rfl⟩
  obtain ⟨a440, ea440⟩ : ∃ w, w = upF a431 50 q440 := ⟨_, rfl⟩
  obtain ⟨f440, ef440⟩ : ∃ w, w = upF f431 50 k440 := ⟨_, rfl⟩
  rw [← ev440, ← ea440, ← ef440] at hP hD
  rw [← ef440] at hK
  refine W.widen (k := 51) (n := 81370) (by decide +kernel) (by decide +kernel) ?_
  refine newRowM 51 (n := 60) (N' := 60) (k := 80) (index := 176) (atype := .int) (ty := .int) hx hb hts iX12_init_in12 hown hin hK hP hD hS hA hl dX12_init_445 (fun h => lv_bipush (v := 60) hx hb dX12_init_446 (by decide) h) (hts (.arrayClass .int) (by decide +kernel)) rfl rfl (fun _ => rfl) (by decide +kernel) (by decide +kernel) (by decide +kernel) (by decide +kernel) (by decide +kernel) dX12_init_448 (by decide) (hts (.fieldLink RX12 176 "OptimaWorksModel" "env" "[I") (by decide +kernel)) rfl rfl (by decide +kernel) dX12_init_450 (fun q448 k448 H locs hK hP hD hS => ?_)
  obtain ⟨v448, ev448⟩ : ∃ w, w = mUp v440 80 (.ref q448) := ⟨_, rfl⟩
  obtain ⟨a448, ea448⟩ : ∃ w, w = upF a440 51 q448 := ⟨_, rfl⟩
  obtain ⟨f448, ef448⟩ : ∃ w, w = upF f440 51 k448 := ⟨_, rfl⟩
  rw [← ev448, ← ea448, ← ef448] at hP hD
  rw [← ef448] at hK
  refine W.widen (k := 52) (n := 81430) (by decide +kernel) (by decide +kernel) ?_
  refine newRowM 52 (n := 4300) (N' := 4300) (k := 85) (index := 179) (atype := .int) (ty := .int) hx hb hts iX12_init_in12 hown hin hK hP hD hS hA hl dX12_init_453 (fun h => lv_sipush (v := 4300) hx hb dX12_init_454 (by decide) h) (hts (.arrayClass .int) (by decide +kernel)) rfl rfl (fun _ => rfl) (by decide +kernel) (by decide +kernel) (by decide +kernel) (by decide +kernel) (by decide +kernel) dX12_init_457 (by decide) (hts (.fieldLink RX12 179 "OptimaWorksModel" "frame" "[I") (by decide +kernel)) rfl rfl (by decide +kernel) dX12_init_459 (fun q457 k457 H locs hK hP hD hS => ?_)
  obtain ⟨v457, ev457⟩ : ∃ w, w = mUp v448 85 (.ref q457) := ⟨_, rfl⟩
  obtain ⟨a457, ea457⟩ : ∃ w, w = upF a448 52 q457 := ⟨_, rfl⟩
  obtain ⟨f457, ef457⟩ : ∃ w, w = upF f448 52 k457 := ⟨_, rfl⟩
  rw [← ev457, ← ea457, ← ef457] at hP hD
  rw [← ef457] at hK
  refine W.widen (k := 53) (n := 85730) (by decide +kernel) (by decide +kernel) ?_
  refine newRowM 53 (n := 4300) (N' := 4300) (k := 86) (index := 182) (atype := .int) (ty := .int) hx hb hts iX12_init_in12 hown hin hK hP hD hS hA hl dX12_init_462 (fun h => lv_sipush (v := 4300) hx hb dX12_init_463 (by decide) h) (hts (.arrayClass .int) (by decide +kernel)) rfl rfl (fun _ => rfl) (by decide +kernel) (by decide +kernel) (by decide +kernel) (by decide +kernel) (by decide +kernel) dX12_init_466 (by decide) (hts (.fieldLink RX12 182 "OptimaWorksModel" "stage" "[I") (by decide +kernel)) rfl rfl (by decide +kernel) dX12_init_468 (fun q466 k466 H locs hK hP hD hS => ?_)
  obtain ⟨v466, ev466⟩ : ∃ w, w = mUp v457 86 (.ref q466) := ⟨_, rfl⟩
  obtain ⟨a466, ea466⟩ : ∃ w, w = upF a457 53 q466 := ⟨_, rfl⟩
  obtain ⟨f466, ef466⟩ : ∃ w, w = upF f457 53 k466 := ⟨_, rfl⟩
  rw [← ev466, ← ea466, ← ef466] at hP hD
  rw [← ef466] at hK
  refine W.widen (k := 54) (n := 90030) (by decide +kernel) (by decide +kernel) ?_
  refine newRowM 54 (n := 4300) (N' := 4300) (k := 87) (index := 185) (atype := .int) (ty := .int) hx hb hts iX12_init_in12 hown hin hK hP hD hS hA hl dX12_init_471 (fun h => lv_sipush (v := 4300) hx hb dX12_init_472 (by decide) h) (hts (.arrayClass .int) (by decide +kernel)) rfl rfl (fun _ => rfl) (by decide +kernel) (by decide +kernel) (by decide +kernel) (by decide +kernel) (by decide +kernel) dX12_init_475 (by decide) (hts (.fieldLink RX12 185 "OptimaWorksModel" "loopA" "[I") (by decide +kernel)) rfl rfl (by decide +kernel) dX12_init_477 (fun q475 k475 H locs hK hP hD hS => ?_)
  obtain ⟨v475, ev475⟩ : ∃ w, w = mUp v466 87 (.ref q475) := ⟨_, rfl⟩
  obtain ⟨a475, ea475⟩ : ∃ w, w = upF a466 54 q475 := ⟨_, rfl⟩
  obtain ⟨f475, ef475⟩ : ∃ w, w = upF f466 54 k475 := ⟨_, rfl⟩
  rw [← ev475, ← ea475, ← ef475] at hP hD
  rw [← ef475] at hK
  refine W.widen (k := 55) (n := 94330) (by decide +kernel) (by decide +kernel) ?_
  refine newRowM 55 (n := 4300) (N' := 4300) (k := 88) (index := 188) (atype := .int) (ty := .int) hx hb hts iX12_init_in12 hown hin hK hP hD hS hA hl dX12_init_480 (fun h => lv_sipush (v := 4300) hx hb dX12_init_481 (by decide) h) (hts (.arrayClass .int) (by decide +kernel)) rfl rfl (fun _ => rfl) (by decide +kernel) (by decide +kernel) (by decide +kernel) (by decide +kernel) (by decide +kernel) dX12_init_484 (by decide) (hts (.fieldLink RX12 188 "OptimaWorksModel" "loopB" "[I") (by decide +kernel)) rfl rfl (by decide +kernel) dX12_init_486 (fun q484 k484 H locs hK hP hD hS => ?_)
  obtain ⟨v484, ev484⟩ : ∃ w, w = mUp v475 88 (.ref q484) := ⟨_, rfl⟩
  obtain ⟨a484, ea484⟩ : ∃ w, w = upF a475 55 q484 := ⟨_, rfl⟩
  obtain ⟨f484, ef484⟩ : ∃ w, w = upF f475 55 k484 := ⟨_, rfl⟩
  rw [← ev484, ← ea484, ← ef484] at hP hD
  rw [← ef484] at hK
  refine W.widen (k := 56) (n := 98630) (by decide +kernel) (by decide +kernel) ?_
  refine newRowM 56 (n := 9) (N' := 9) (k := 96) (index := 191) (atype := .int) (ty := .int) hx hb hts iX12_init_in12 hown hin hK hP hD hS hA hl dX12_init_489 (fun h => lv_bipush (v := 9) hx hb dX12_init_490 (by decide) h) (hts (.arrayClass .int) (by decide +kernel)) rfl rfl (fun _ => rfl) (by decide +kernel) (by decide +kernel) (by decide +kernel) (by decide +kernel) (by decide +kernel) dX12_init_492 (by decide) (hts (.fieldLink RX12 191 "OptimaWorksModel" "low" "[I") (by decide +kernel)) rfl rfl (by decide +kernel) dX12_init_494 (fun q492 k492 H locs hK hP hD hS => ?_)
  obtain ⟨v492, ev492⟩ : ∃ w, w = mUp v484 96 (.ref q492) := ⟨_, rfl⟩
  obtain ⟨a492, ea492⟩ : ∃ w, w = upF a484 56 q492 := ⟨_, rfl⟩
  obtain ⟨f492, ef492⟩ : ∃ w, w = upF f484 56 k492 := ⟨_, rfl⟩
  rw [← ev492, ← ea492, ← ef492] at hP hD
  rw [← ef492] at hK
  refine W.widen (k := 57) (n := 98639) (by decide +kernel) (by decide +kernel) ?_
  refine newRowM 57 (n := 9) (N' := 9) (k := 97) (index := 194) (atype := .int) (ty := .int) hx hb hts iX12_init_in12 hown hin hK hP hD hS hA hl dX12_init_497 (fun h => lv_bipush (v := 9) hx hb dX12_init_498 (by decide) h) (hts (.arrayClass .int) (by decide +kernel)) rfl rfl (fun _ => rfl) (by decide +kernel) (by decide +kernel) (by decide +kernel) (by decide +kernel) (by decide +kernel) dX12_init_500 (by decide) (hts (.fieldLink RX12 194 "OptimaWorksModel" "high" "[I") (by decide +kernel)) rfl rfl (by decide +kernel) dX12_init_502 (fun q500 k500 H locs hK hP hD hS => ?_)
  obtain ⟨v500, ev500⟩ : ∃ w, w = mUp v492 97 (.ref q500) := ⟨_, rfl⟩
  obtain ⟨a500, ea500⟩ : ∃ w, w = upF a492 57 q500 := ⟨_, rfl⟩
  obtain ⟨f500, ef500⟩ : ∃ w, w = upF f492 57 k500 := ⟨_, rfl⟩
  rw [← ev500, ← ea500, ← ef500] at hP hD
  rw [← ef500] at hK
  refine W.widen (k := 58) (n := 98648) (by decide +kernel) (by decide +kernel) ?_
  refine newRowM 58 (n := 9) (N' := 9) (k := 98) (index := 197) (atype := .int) (ty := .int) hx hb hts iX12_init_in12 hown hin hK hP hD hS hA hl dX12_init_505 (fun h => lv_bipush (v := 9) hx hb dX12_init_506 (by decide) h) (hts (.arrayClass .int) (by decide +kernel)) rfl rfl (fun _ => rfl) (by decide +kernel) (by decide +kernel) (by decide +kernel) (by decide +kernel) (by decide +kernel) dX12_init_508 (by decide) (hts (.fieldLink RX12 197 "OptimaWorksModel" "whole" "[I") (by decide +kernel)) rfl rfl (by decide +kernel) dX12_init_510 (fun q508 k508 H locs hK hP hD hS => ?_)
  obtain ⟨v508, ev508⟩ : ∃ w, w = mUp v500 98 (.ref q508) := ⟨_, rfl⟩
  obtain ⟨a508, ea508⟩ : ∃ w, w = upF a500 58 q508 := ⟨_, rfl⟩
  obtain ⟨f508, ef508⟩ : ∃ w, w = upF f500 58 k508 := ⟨_, rfl⟩
  rw [← ev508, ← ea508, ← ef508] at hP hD
  rw [← ef508] at hK
  refine W.widen (k := 59) (n := 98657) (by decide +kernel) (by decide +kernel) ?_
  refine newRowM 59 (n := 13) (N' := 13) (k := 99) (index := 200) (atype := .int) (ty := .int) hx hb hts iX12_init_in12 hown hin hK hP hD hS hA hl dX12_init_513 (fun h => lv_bipush (v := 13) hx hb dX12_init_514 (by decide) h) (hts (.arrayClass .int) (by decide +kernel)) rfl rfl (fun _ => rfl) (by decide +kernel) (by decide +kernel) (by decide +kernel) (by decide +kernel) (by decide +kernel) dX12_init_516 (by decide) (hts (.fieldLink RX12 200 "OptimaWorksModel" "wayMany" "[I") (by decide +kernel)) rfl rfl (by decide +kernel) dX12_init_518 (fun q516 k516 H locs hK hP hD hS => ?_)
  obtain ⟨v516, ev516⟩ : ∃ w, w = mUp v508 99 (.ref q516) := ⟨_, rfl⟩
  obtain ⟨a516, ea516⟩ : ∃ w, w = upF a508 59 q516 := ⟨_, rfl⟩
  obtain ⟨f516, ef516⟩ : ∃ w, w = upF f508 59 k516 := ⟨_, rfl⟩
  rw [← ev516, ← ea516, ← ef516] at hP hD
  rw [← ef516] at hK
  refine W.widen (k := 60) (n := 98670) (by decide +kernel) (by decide +kernel) ?_
  refine newRowM 60 (n := 351) (N' := 351) (k := 100) (index := 203) (atype := .int) (ty := .int) hx hb hts iX12_init_in12 hown hin hK hP hD hS hA hl dX12_init_521 (fun h => lv_sipush (v := 351) hx hb dX12_init_522 (by decide) h) (hts (.arrayClass .int) (by decide +kernel)) rfl rfl (fun _ => rfl) (by decide +kernel) (by decide +kernel) (by decide +kernel) (by decide +kernel) (by decide +kernel) dX12_init_525 (by decide) (hts (.fieldLink RX12 203 "OptimaWorksModel" "wayNumber" "[I") (by decide +kernel)) rfl rfl (by decide +kernel) dX12_init_527 (fun q525 k525 H locs hK hP hD hS => ?_)
  obtain ⟨v525, ev525⟩ : ∃ w, w = mUp v516 100 (.ref q525) := ⟨_, rfl⟩
  obtain ⟨a525, ea525⟩ : ∃ w, w = upF a516 60 q525 := ⟨_, rfl⟩
  obtain ⟨f525, ef525⟩ : ∃ w, w = upF f516 60 k525 := ⟨_, rfl⟩
  rw [← ev525, ← ea525, ← ef525] at hP hD
  rw [← ef525] at hK
  refine W.widen (k := 61) (n := 99021) (by decide +kernel) (by decide +kernel) ?_
  refine newRowM 61 (n := 39) (N' := 39) (k := 101) (index := 206) (atype := .int) (ty := .int) hx hb hts iX12_init_in12 hown hin hK hP hD hS hA hl dX12_init_530 (fun h => lv_bipush (v := 39) hx hb dX12_init_531 (by decide) h) (hts (.arrayClass .int) (by decide +kernel)) rfl rfl (fun _ => rfl) (by decide +kernel) (by decide +kernel) (by decide +kernel) (by decide +kernel) (by decide +kernel) dX12_init_533 (by decide) (hts (.fieldLink RX12 206 "OptimaWorksModel" "waySign" "[I") (by decide +kernel)) rfl rfl (by decide +kernel) dX12_init_535 (fun q533 k533 H locs hK hP hD hS => ?_)
  obtain ⟨v533, ev533⟩ : ∃ w, w = mUp v525 101 (.ref q533) := ⟨_, rfl⟩
  obtain ⟨a533, ea533⟩ : ∃ w, w = upF a525 61 q533 := ⟨_, rfl⟩
  obtain ⟨f533, ef533⟩ : ∃ w, w = upF f525 61 k533 := ⟨_, rfl⟩
  rw [← ev533, ← ea533, ← ef533] at hP hD
  rw [← ef533] at hK
  refine W.widen (k := 62) (n := 99060) (by decide +kernel) (by decide +kernel) ?_
  refine newRowM 62 (n := 9) (N' := 9) (k := 102) (index := 209) (atype := .int) (ty := .int) hx hb hts iX12_init_in12 hown hin hK hP hD hS hA hl dX12_init_538 (fun h => lv_bipush (v := 9) hx hb dX12_init_539 (by decide) h) (hts (.arrayClass .int) (by decide +kernel)) rfl rfl (fun _ => rfl) (by decide +kernel) (by decide +kernel) (by decide +kernel) (by decide +kernel) (by decide +kernel) dX12_init_541 (by decide) (hts (.fieldLink RX12 209 "OptimaWorksModel" "differentSet" "[I") (by decide +kernel)) rfl rfl (by decide +kernel) dX12_init_543 (fun q541 k541 H locs hK hP hD hS => ?_)
  obtain ⟨v541, ev541⟩ : ∃ w, w = mUp v533 102 (.ref q541) := ⟨_, rfl⟩
  obtain ⟨a541, ea541⟩ : ∃ w, w = upF a533 62 q541 := ⟨_, rfl⟩
  obtain ⟨f541, ef541⟩ : ∃ w, w = upF f533 62 k541 := ⟨_, rfl⟩
  rw [← ev541, ← ea541, ← ef541] at hP hD
  rw [← ef541] at hK
  refine W.widen (k := 63) (n := 99069) (by decide +kernel) (by decide +kernel) ?_
  refine newRowM 63 (n := 27) (N' := 27) (k := 103) (index := 212) (atype := .int) (ty := .int) hx hb hts iX12_init_in12 hown hin hK hP hD hS hA hl dX12_init_546 (fun h => lv_bipush (v := 27) hx hb dX12_init_547 (by decide) h) (hts (.arrayClass .int) (by decide +kernel)) rfl rfl (fun _ => rfl) (by decide +kernel) (by decide +kernel) (by decide +kernel) (by decide +kernel) (by decide +kernel) dX12_init_549 (by decide) (hts (.fieldLink RX12 212 "OptimaWorksModel" "goalTop" "[I") (by decide +kernel)) rfl rfl (by decide +kernel) dX12_init_551 (fun q549 k549 H locs hK hP hD hS => ?_)
  obtain ⟨v549, ev549⟩ : ∃ w, w = mUp v541 103 (.ref q549) := ⟨_, rfl⟩
  obtain ⟨a549, ea549⟩ : ∃ w, w = upF a541 63 q549 := ⟨_, rfl⟩
  obtain ⟨f549, ef549⟩ : ∃ w, w = upF f541 63 k549 := ⟨_, rfl⟩
  rw [← ev549, ← ea549, ← ef549] at hP hD
  rw [← ef549] at hK
  refine W.widen (k := 64) (n := 99096) (by decide +kernel) (by decide +kernel) ?_
  refine newRowM 64 (n := 27) (N' := 27) (k := 104) (index := 215) (atype := .int) (ty := .int) hx hb hts iX12_init_in12 hown hin hK hP hD hS hA hl dX12_init_554 (fun h => lv_bipush (v := 27) hx hb dX12_init_555 (by decide) h) (hts (.arrayClass .int) (by decide +kernel)) rfl rfl (fun _ => rfl) (by decide +kernel) (by decide +kernel) (by decide +kernel) (by decide +kernel) (by decide +kernel) dX12_init_557 (by decide) (hts (.fieldLink RX12 215 "OptimaWorksModel" "goalUnder" "[I") (by decide +kernel)) rfl rfl (by decide +kernel) dX12_init_559 (fun q557 k557 H locs hK hP hD hS => ?_)
  obtain ⟨v557, ev557⟩ : ∃ w, w = mUp v549 104 (.ref q557) := ⟨_, rfl⟩
  obtain ⟨a557, ea557⟩ : ∃ w, w = upF a549 64 q557 := ⟨_, rfl⟩
  obtain ⟨f557, ef557⟩ : ∃ w, w = upF f549 64 k557 := ⟨_, rfl⟩
  rw [← ev557, ← ea557, ← ef557] at hP hD
  rw [← ef557] at hK
  refine W.widen (k := 65) (n := 99123) (by decide +kernel) (by decide +kernel) ?_
  refine newRowM 65 (n := 3) (N' := 3) (k := 105) (index := 218) (atype := .int) (ty := .int) hx hb hts iX12_init_in12 hown hin hK hP hD hS hA hl dX12_init_562 (fun h => lv_iconst (v := 3) hx hb dX12_init_563 (by decide) h) (hts (.arrayClass .int) (by decide +kernel)) rfl rfl (fun _ => rfl) (by decide +kernel) (by decide +kernel) (by decide +kernel) (by decide +kernel) (by decide +kernel) dX12_init_564 (by decide) (hts (.fieldLink RX12 218 "OptimaWorksModel" "goalMax" "[I") (by decide +kernel)) rfl rfl (by decide +kernel) dX12_init_566 (fun q564 k564 H locs hK hP hD hS => ?_)
  obtain ⟨v564, ev564⟩ : ∃ w, w = mUp v557 105 (.ref q564) := ⟨_, rfl⟩
  obtain ⟨a564, ea564⟩ : ∃ w, w = upF a557 65 q564 := ⟨_, rfl⟩
  obtain ⟨f564, ef564⟩ : ∃ w, w = upF f557 65 k564 := ⟨_, rfl⟩
  rw [← ev564, ← ea564, ← ef564] at hP hD
  rw [← ef564] at hK
  refine W.widen (k := 66) (n := 99126) (by decide +kernel) (by decide +kernel) ?_
  refine newRowM 66 (n := 200) (N' := 200) (k := 106) (index := 221) (atype := .int) (ty := .int) hx hb hts iX12_init_in12 hown hin hK hP hD hS hA hl dX12_init_569 (fun h => lv_sipush (v := 200) hx hb dX12_init_570 (by decide) h) (hts (.arrayClass .int) (by decide +kernel)) rfl rfl (fun _ => rfl) (by decide +kernel) (by decide +kernel) (by decide +kernel) (by decide +kernel) (by decide +kernel) dX12_init_573 (by decide) (hts (.fieldLink RX12 221 "OptimaWorksModel" "partNode" "[I") (by decide +kernel)) rfl rfl (by decide +kernel) dX12_init_575 (fun q573 k573 H locs hK hP hD hS => ?_)
  obtain ⟨v573, ev573⟩ : ∃ w, w = mUp v564 106 (.ref q573) := ⟨_, rfl⟩
  obtain ⟨a573, ea573⟩ : ∃ w, w = upF a564 66 q573 := ⟨_, rfl⟩
  obtain ⟨f573, ef573⟩ : ∃ w, w = upF f564 66 k573 := ⟨_, rfl⟩
  rw [← ev573, ← ea573, ← ef573] at hP hD
  rw [← ef573] at hK
  refine W.widen (k := 67) (n := 99326) (by decide +kernel) (by decide +kernel) ?_
  refine newRowM 67 (n := 200) (N' := 200) (k := 107) (index := 224) (atype := .int) (ty := .int) hx hb hts iX12_init_in12 hown hin hK hP hD hS hA hl dX12_init_578 (fun h => lv_sipush (v := 200) hx hb dX12_init_579 (by decide) h) (hts (.arrayClass .int) (by decide +kernel)) rfl rfl (fun _ => rfl) (by decide +kernel) (by decide +kernel) (by decide +kernel) (by decide +kernel) (by decide +kernel) dX12_init_582 (by decide) (hts (.fieldLink RX12 224 "OptimaWorksModel" "partFirst" "[I") (by decide +kernel)) rfl rfl (by decide +kernel) dX12_init_584 (fun q582 k582 H locs hK hP hD hS => ?_)
  obtain ⟨v582, ev582⟩ : ∃ w, w = mUp v573 107 (.ref q582) := ⟨_, rfl⟩
  obtain ⟨a582, ea582⟩ : ∃ w, w = upF a573 67 q582 := ⟨_, rfl⟩
  obtain ⟨f582, ef582⟩ : ∃ w, w = upF f573 67 k582 := ⟨_, rfl⟩
  rw [← ev582, ← ea582, ← ef582] at hP hD
  rw [← ef582] at hK
  refine W.widen (k := 68) (n := 99526) (by decide +kernel) (by decide +kernel) ?_
  refine newRowM 68 (n := 8) (N' := 8) (k := 108) (index := 227) (atype := .int) (ty := .int) hx hb hts iX12_init_in12 hown hin hK hP hD hS hA hl dX12_init_587 (fun h => lv_bipush (v := 8) hx hb dX12_init_588 (by decide) h) (hts (.arrayClass .int) (by decide +kernel)) rfl rfl (fun _ => rfl) (by decide +kernel) (by decide +kernel) (by decide +kernel) (by decide +kernel) (by decide +kernel) dX12_init_590 (by decide) (hts (.fieldLink RX12 227 "OptimaWorksModel" "partSign" "[I") (by decide +kernel)) rfl rfl (by decide +kernel) dX12_init_592 (fun q590 k590 H locs hK hP hD hS => ?_)
  obtain ⟨v590, ev590⟩ : ∃ w, w = mUp v582 108 (.ref q590) := ⟨_, rfl⟩
  obtain ⟨a590, ea590⟩ : ∃ w, w = upF a582 68 q590 := ⟨_, rfl⟩
  obtain ⟨f590, ef590⟩ : ∃ w, w = upF f582 68 k590 := ⟨_, rfl⟩
  rw [← ev590, ← ea590, ← ef590] at hP hD
  rw [← ef590] at hK
  refine W.widen (k := 69) (n := 99534) (by decide +kernel) (by decide +kernel) ?_
  refine newRowM 69 (n := 13) (N' := 13) (k := 114) (index := 230) (atype := .int) (ty := .int) hx hb hts iX12_init_in12 hown hin hK hP hD hS hA hl dX12_init_595 (fun h => lv_bipush (v := 13) hx hb dX12_init_596 (by decide) h) (hts (.arrayClass .int) (by decide +kernel)) rfl rfl (fun _ => rfl) (by decide +kernel) (by decide +kernel) (by decide +kernel) (by decide +kernel) (by decide +kernel) dX12_init_598 (by decide) (hts (.fieldLink RX12 230 "OptimaWorksModel" "chosen" "[I") (by decide +kernel)) rfl rfl (by decide +kernel) dX12_init_600 (fun q598 k598 H locs hK hP hD hS => ?_)
  obtain ⟨v598, ev598⟩ : ∃ w, w = mUp v590 114 (.ref q598) := ⟨_, rfl⟩
  obtain ⟨a598, ea598⟩ : ∃ w, w = upF a590 69 q598 := ⟨_, rfl⟩
  obtain ⟨f598, ef598⟩ : ∃ w, w = upF f590 69 k598 := ⟨_, rfl⟩
  rw [← ev598, ← ea598, ← ef598] at hP hD
  rw [← ef598] at hK
  refine W.widen (k := 70) (n := 99547) (by decide +kernel) (by decide +kernel) ?_
  refine newRowM 70 (n := 9) (N' := 9) (k := 115) (index := 233) (atype := .int) (ty := .int) hx hb hts iX12_init_in12 hown hin hK hP hD hS hA hl dX12_init_603 (fun h => lv_bipush (v := 9) hx hb dX12_init_604 (by decide) h) (hts (.arrayClass .int) (by decide +kernel)) rfl rfl (fun _ => rfl) (by decide +kernel) (by decide +kernel) (by decide +kernel) (by decide +kernel) (by decide +kernel) dX12_init_606 (by decide) (hts (.fieldLink RX12 233 "OptimaWorksModel" "value" "[I") (by decide +kernel)) rfl rfl (by decide +kernel) dX12_init_608 (fun q606 k606 H locs hK hP hD hS => ?_)
  obtain ⟨v606, ev606⟩ : ∃ w, w = mUp v598 115 (.ref q606) := ⟨_, rfl⟩
  obtain ⟨a606, ea606⟩ : ∃ w, w = upF a598 70 q606 := ⟨_, rfl⟩
  obtain ⟨f606, ef606⟩ : ∃ w, w = upF f598 70 k606 := ⟨_, rfl⟩
  rw [← ev606, ← ea606, ← ef606] at hP hD
  rw [← ef606] at hK
  refine W.widen (k := 71) (n := 99556) (by decide +kernel) (by decide +kernel) ?_
  refine newRowM 71 (n := 28) (N' := 28) (k := 120) (index := 236) (atype := .int) (ty := .int) hx hb hts iX12_init_in12 hown hin hK hP hD hS hA hl dX12_init_611 (fun h => lv_bipush (v := 28) hx hb dX12_init_612 (by decide) h) (hts (.arrayClass .int) (by decide +kernel)) rfl rfl (fun _ => rfl) (by decide +kernel) (by decide +kernel) (by decide +kernel) (by decide +kernel) (by decide +kernel) dX12_init_614 (by decide) (hts (.fieldLink RX12 236 "OptimaWorksModel" "needKind" "[I") (by decide +kernel)) rfl rfl (by decide +kernel) dX12_init_616 (fun q614 k614 H locs hK hP hD hS => ?_)
  obtain ⟨v614, ev614⟩ : ∃ w, w = mUp v606 120 (.ref q614) := ⟨_, rfl⟩
  obtain ⟨a614, ea614⟩ : ∃ w, w = upF a606 71 q614 := ⟨_, rfl⟩
  obtain ⟨f614, ef614⟩ : ∃ w, w = upF f606 71 k614 := ⟨_, rfl⟩
  rw [← ev614, ← ea614, ← ef614] at hP hD
  rw [← ef614] at hK
  refine W.widen (k := 72) (n := 99584) (by decide +kernel) (by decide +kernel) ?_
  refine newRowM 72 (n := 28) (N' := 28) (k := 121) (index := 239) (atype := .int) (ty := .int) hx hb hts iX12_init_in12 hown hin hK hP hD hS hA hl dX12_init_619 (fun h => lv_bipush (v := 28) hx hb dX12_init_620 (by decide) h) (hts (.arrayClass .int) (by decide +kernel)) rfl rfl (fun _ => rfl) (by decide +kernel) (by decide +kernel) (by decide +kernel) (by decide +kernel) (by decide +kernel) dX12_init_622 (by decide) (hts (.fieldLink RX12 239 "OptimaWorksModel" "needOf" "[I") (by decide +kernel)) rfl rfl (by decide +kernel) dX12_init_624 (fun q622 k622 H locs hK hP hD hS => ?_)
  obtain ⟨v622, ev622⟩ : ∃ w, w = mUp v614 121 (.ref q622) := ⟨_, rfl⟩
  obtain ⟨a622, ea622⟩ : ∃ w, w = upF a614 72 q622 := ⟨_, rfl⟩
  obtain ⟨f622, ef622⟩ : ∃ w, w = upF f614 72 k622 := ⟨_, rfl⟩
  rw [← ev622, ← ea622, ← ef622] at hP hD
  rw [← ef622] at hK
  refine W.widen (k := 73) (n := 99612) (by decide +kernel) (by decide +kernel) ?_
  refine newRowM 73 (n := 28) (N' := 28) (k := 122) (index := 242) (atype := .int) (ty := .int) hx hb hts iX12_init_in12 hown hin hK hP hD hS hA hl dX12_init_627 (fun h => lv_bipush (v := 28) hx hb dX12_init_628 (by decide) h) (hts (.arrayClass .int) (by decide +kernel)) rfl rfl (fun _ => rfl) (by decide +kernel) (by decide +kernel) (by decide +kernel) (by decide +kernel) (by decide +kernel) dX12_init_630 (by decide) (hts (.fieldLink RX12 242 "OptimaWorksModel" "needKept" "[I") (by decide +kernel)) rfl rfl (by decide +kernel) dX12_init_632 (fun q630 k630 H locs hK hP hD hS => ?_)
  obtain ⟨v630, ev630⟩ : ∃ w, w = mUp v622 122 (.ref q630) := ⟨_, rfl⟩
  obtain ⟨a630, ea630⟩ : ∃ w, w = upF a622 73 q630 := ⟨_, rfl⟩
  obtain ⟨f630, ef630⟩ : ∃ w, w = upF f622 73 k630 := ⟨_, rfl⟩
  rw [← ev630, ← ea630, ← ef630] at hP hD
  rw [← ef630] at hK
  refine W.widen (k := 74) (n := 99640) (by decide +kernel) (by decide +kernel) ?_
  refine newRowM 74 (n := 28) (N' := 28) (k := 123) (index := 245) (atype := .int) (ty := .int) hx hb hts iX12_init_in12 hown hin hK hP hD hS hA hl dX12_init_635 (fun h => lv_bipush (v := 28) hx hb dX12_init_636 (by decide) h) (hts (.arrayClass .int) (by decide +kernel)) rfl rfl (fun _ => rfl) (by decide +kernel) (by decide +kernel) (by decide +kernel) (by decide +kernel) (by decide +kernel) dX12_init_638 (by decide) (hts (.fieldLink RX12 245 "OptimaWorksModel" "needColumn" "[I") (by decide +kernel)) rfl rfl (by decide +kernel) dX12_init_640 (fun q638 k638 H locs hK hP hD hS => ?_)
  obtain ⟨v638, ev638⟩ : ∃ w, w = mUp v630 123 (.ref q638) := ⟨_, rfl⟩
  obtain ⟨a638, ea638⟩ : ∃ w, w = upF a630 74 q638 := ⟨_, rfl⟩
  obtain ⟨f638, ef638⟩ : ∃ w, w = upF f630 74 k638 := ⟨_, rfl⟩
  rw [← ev638, ← ea638, ← ef638] at hP hD
  rw [← ef638] at hK
  refine W.widen (k := 75) (n := 99668) (by decide +kernel) (by decide +kernel) ?_
  refine newRowM 75 (n := 30000) (N' := 30000) (k := 124) (index := 248) (atype := .byte) (ty := .byte) hx hb hts iX12_init_in12 hown hin hK hP hD hS hA hl dX12_init_643 (fun h => lv_sipush (v := 30000) hx hb dX12_init_644 (by decide) h) (hts (.arrayClass .byte) (by decide +kernel)) rfl rfl (fun _ => rfl) (by decide +kernel) (by decide +kernel) (by decide +kernel) (by decide +kernel) (by decide +kernel) dX12_init_647 (by decide) (hts (.fieldLink RX12 248 "OptimaWorksModel" "out" "[B") (by decide +kernel)) rfl rfl (by decide +kernel) dX12_init_649 (fun q647 k647 H locs hK hP hD hS => ?_)
  obtain ⟨v647, ev647⟩ : ∃ w, w = mUp v638 124 (.ref q647) := ⟨_, rfl⟩
  obtain ⟨a647, ea647⟩ : ∃ w, w = upF a638 75 q647 := ⟨_, rfl⟩
  obtain ⟨f647, ef647⟩ : ∃ w, w = upF f638 75 k647 := ⟨_, rfl⟩
  rw [← ev647, ← ea647, ← ef647] at hP hD
  rw [← ef647] at hK
  refine W.widen (k := 76) (n := 129668) (by decide +kernel) (by decide +kernel) ?_
  refine newRowM 76 (n := 250) (N' := 250) (k := 126) (index := 251) (atype := .int) (ty := .int) hx hb hts iX12_init_in12 hown hin hK hP hD hS hA hl dX12_init_652 (fun h => lv_sipush (v := 250) hx hb dX12_init_653 (by decide) h) (hts (.arrayClass .int) (by decide +kernel)) rfl rfl (fun _ => rfl) (by decide +kernel) (by decide +kernel) (by decide +kernel) (by decide +kernel) (by decide +kernel) dX12_init_656 (by decide) (hts (.fieldLink RX12 251 "OptimaWorksModel" "digits" "[I") (by decide +kernel)) rfl rfl (by decide +kernel) dX12_init_658 (fun q656 k656 H locs hK hP hD hS => ?_)
  obtain ⟨v656, ev656⟩ : ∃ w, w = mUp v647 126 (.ref q656) := ⟨_, rfl⟩
  obtain ⟨a656, ea656⟩ : ∃ w, w = upF a647 76 q656 := ⟨_, rfl⟩
  obtain ⟨f656, ef656⟩ : ∃ w, w = upF f647 76 k656 := ⟨_, rfl⟩
  rw [← ev656, ← ea656, ← ef656] at hP hD
  rw [← ef656] at hK
  refine W.widen (k := 77) (n := 129918) (by decide +kernel) (by decide +kernel) ?_
  refine newRowM 77 (n := 20) (N' := 20) (k := 127) (index := 254) (atype := .int) (ty := .int) hx hb hts iX12_init_in12 hown hin hK hP hD hS hA hl dX12_init_661 (fun h => lv_bipush (v := 20) hx hb dX12_init_662 (by decide) h) (hts (.arrayClass .int) (by decide +kernel)) rfl rfl (fun _ => rfl) (by decide +kernel) (by decide +kernel) (by decide +kernel) (by decide +kernel) (by decide +kernel) dX12_init_664 (by decide) (hts (.fieldLink RX12 254 "OptimaWorksModel" "ready" "[I") (by decide +kernel)) rfl rfl (by decide +kernel) dX12_init_666 (fun q664 k664 H locs hK hP hD hS => ?_)
  obtain ⟨v664, ev664⟩ : ∃ w, w = mUp v656 127 (.ref q664) := ⟨_, rfl⟩
  obtain ⟨a664, ea664⟩ : ∃ w, w = upF a656 77 q664 := ⟨_, rfl⟩
  obtain ⟨f664, ef664⟩ : ∃ w, w = upF f656 77 k664 := ⟨_, rfl⟩
  rw [← ev664, ← ea664, ← ef664] at hP hD
  rw [← ef664] at hK
  refine W.widen (k := 78) (n := 129938) (by decide +kernel) (by decide +kernel) ?_
  refine newRowM 78 (n := 10) (N' := 10) (k := 130) (index := 257) (atype := .int) (ty := .int) hx hb hts iX12_init_in12 hown hin hK hP hD hS hA hl dX12_init_669 (fun h => lv_bipush (v := 10) hx hb dX12_init_670 (by decide) h) (hts (.arrayClass .int) (by decide +kernel)) rfl rfl (fun _ => rfl) (by decide +kernel) (by decide +kernel) (by decide +kernel) (by decide +kernel) (by decide +kernel) dX12_init_672 (by decide) (hts (.fieldLink RX12 257 "OptimaWorksModel" "domain" "[I") (by decide +kernel)) rfl rfl (by decide +kernel) dX12_init_674 (fun q672 k672 H locs hK hP hD hS => ?_)
  obtain ⟨v672, ev672⟩ : ∃ w, w = mUp v664 130 (.ref q672) := ⟨_, rfl⟩
  obtain ⟨a672, ea672⟩ : ∃ w, w = upF a664 78 q672 := ⟨_, rfl⟩
  obtain ⟨f672, ef672⟩ : ∃ w, w = upF f664 78 k672 := ⟨_, rfl⟩
  rw [← ev672, ← ea672, ← ef672] at hP hD
  rw [← ef672] at hK
  refine W.widen (k := 79) (n := 129948) (by decide +kernel) (by decide +kernel) ?_
  refine newRowM 79 (n := 10) (N' := 10) (k := 131) (index := 260) (atype := .int) (ty := .int) hx hb hts iX12_init_in12 hown hin hK hP hD hS hA hl dX12_init_677 (fun h => lv_bipush (v := 10) hx hb dX12_init_678 (by decide) h) (hts (.arrayClass .int) (by decide +kernel)) rfl rfl (fun _ => rfl) (by decide +kernel) (by decide +kernel) (by decide +kernel) (by decide +kernel) (by decide +kernel) dX12_init_680 (by decide) (hts (.fieldLink RX12 260 "OptimaWorksModel" "now" "[I") (by decide +kernel)) rfl rfl (by decide +kernel) dX12_init_682 (fun q680 k680 H locs hK hP hD hS => ?_)
  obtain ⟨v680, ev680⟩ : ∃ w, w = mUp v672 131 (.ref q680) := ⟨_, rfl⟩
  obtain ⟨a680, ea680⟩ : ∃ w, w = upF a672 79 q680 := ⟨_, rfl⟩
  obtain ⟨f680, ef680⟩ : ∃ w, w = upF f672 79 k680 := ⟨_, rfl⟩
  rw [← ev680, ← ea680, ← ef680] at hP hD
  rw [← ef680] at hK
  refine W.widen (k := 80) (n := 129958) (by decide +kernel) (by decide +kernel) ?_
  refine newRowM 80 (n := 12) (N' := 12) (k := 132) (index := 263) (atype := .int) (ty := .int) hx hb hts iX12_init_in12 hown hin hK hP hD hS hA hl dX12_init_685 (fun h => lv_bipush (v := 12) hx hb dX12_init_686 (by decide) h) (hts (.arrayClass .int) (by decide +kernel)) rfl rfl (fun _ => rfl) (by decide +kernel) (by decide +kernel) (by decide +kernel) (by decide +kernel) (by decide +kernel) dX12_init_688 (by decide) (hts (.fieldLink RX12 263 "OptimaWorksModel" "ruleKind" "[I") (by decide +kernel)) rfl rfl (by decide +kernel) dX12_init_690 (fun q688 k688 H locs hK hP hD hS => ?_)
  obtain ⟨v688, ev688⟩ : ∃ w, w = mUp v680 132 (.ref q688) := ⟨_, rfl⟩
  obtain ⟨a688, ea688⟩ : ∃ w, w = upF a680 80 q688 := ⟨_, rfl⟩
  obtain ⟨f688, ef688⟩ : ∃ w, w = upF f680 80 k688 := ⟨_, rfl⟩
  rw [← ev688, ← ea688, ← ef688] at hP hD
  rw [← ef688] at hK
  refine W.widen (k := 81) (n := 129970) (by decide +kernel) (by decide +kernel) ?_
  refine newRowM 81 (n := 12) (N' := 12) (k := 133) (index := 266) (atype := .int) (ty := .int) hx hb hts iX12_init_in12 hown hin hK hP hD hS hA hl dX12_init_693 (fun h => lv_bipush (v := 12) hx hb dX12_init_694 (by decide) h) (hts (.arrayClass .int) (by decide +kernel)) rfl rfl (fun _ => rfl) (by decide +kernel) (by decide +kernel) (by decide +kernel) (by decide +kernel) (by decide +kernel) dX12_init_696 (by decide) (hts (.fieldLink RX12 266 "OptimaWorksModel" "ruleA" "[I") (by decide +kernel)) rfl rfl (by decide +kernel) dX12_init_698 (fun q696 k696 H locs hK hP hD hS => ?_)
  obtain ⟨v696, ev696⟩ : ∃ w, w = mUp v688 133 (.ref q696) := ⟨_, rfl⟩
  obtain ⟨a696, ea696⟩ : ∃ w, w = upF a688 81 q696 := ⟨_, rfl⟩
  obtain ⟨f696, ef696⟩ : ∃ w, w = upF f688 81 k696 := ⟨_, rfl⟩
  rw [← ev696, ← ea696, ← ef696] at hP hD
  rw [← ef696] at hK
  refine W.widen (k := 82) (n := 129982) (by decide +kernel) (by decide +kernel) ?_
  refine newRowM 82 (n := 12) (N' := 12) (k := 134) (index := 269) (atype := .int) (ty := .int) hx hb hts iX12_init_in12 hown hin hK hP hD hS hA hl dX12_init_701 (fun h => lv_bipush (v := 12) hx hb dX12_init_702 (by decide) h) (hts (.arrayClass .int) (by decide +kernel)) rfl rfl (fun _ => rfl) (by decide +kernel) (by decide +kernel) (by decide +kernel) (by decide +kernel) (by decide +kernel) dX12_init_704 (by decide) (hts (.fieldLink RX12 269 "OptimaWorksModel" "ruleB" "[I") (by decide +kernel)) rfl rfl (by decide +kernel) dX12_init_706 (fun q704 k704 H locs hK hP hD hS => ?_)
  obtain ⟨v704, ev704⟩ : ∃ w, w = mUp v696 134 (.ref q704) := ⟨_, rfl⟩
  obtain ⟨a704, ea704⟩ : ∃ w, w = upF a696 82 q704 := ⟨_, rfl⟩
  obtain ⟨f704, ef704⟩ : ∃ w, w = upF f696 82 k704 := ⟨_, rfl⟩
  rw [← ev704, ← ea704, ← ef704] at hP hD
  rw [← ef704] at hK
  refine W.widen (k := 83) (n := 129994) (by decide +kernel) (by decide +kernel) ?_
  refine newRowM 83 (n := 12) (N' := 12) (k := 135) (index := 272) (atype := .int) (ty := .int) hx hb hts iX12_init_in12 hown hin hK hP hD hS hA hl dX12_init_709 (fun h => lv_bipush (v := 12) hx hb dX12_init_710 (by decide) h) (hts (.arrayClass .int) (by decide +kernel)) rfl rfl (fun _ => rfl) (by decide +kernel) (by decide +kernel) (by decide +kernel) (by decide +kernel) (by decide +kernel) dX12_init_712 (by decide) (hts (.fieldLink RX12 272 "OptimaWorksModel" "ruleC" "[I") (by decide +kernel)) rfl rfl (by decide +kernel) dX12_init_714 (fun q712 k712 H locs hK hP hD hS => ?_)
  obtain ⟨v712, ev712⟩ : ∃ w, w = mUp v704 135 (.ref q712) := ⟨_, rfl⟩
  obtain ⟨a712, ea712⟩ : ∃ w, w = upF a704 83 q712 := ⟨_, rfl⟩
  obtain ⟨f712, ef712⟩ : ∃ w, w = upF f704 83 k712 := ⟨_, rfl⟩
  rw [← ev712, ← ea712, ← ef712] at hP hD
  rw [← ef712] at hK
  refine W.widen (k := 84) (n := 130006) (by decide +kernel) (by decide +kernel) ?_
  refine newRowM 84 (n := 192) (N' := 192) (k := 136) (index := 275) (atype := .int) (ty := .int) hx hb hts iX12_init_in12 hown hin hK hP hD hS hA hl dX12_init_717 (fun h => lv_sipush (v := 192) hx hb dX12_init_718 (by decide) h) (hts (.arrayClass .int) (by decide +kernel)) rfl rfl (fun _ => rfl) (by decide +kernel) (by decide +kernel) (by decide +kernel) (by decide +kernel) (by decide +kernel) dX12_init_721 (by decide) (hts (.fieldLink RX12 275 "OptimaWorksModel" "rulePairs" "[I") (by decide +kernel)) rfl rfl (by decide +kernel) dX12_init_723 (fun q721 k721 H locs hK hP hD hS => ?_)
  obtain ⟨v721, ev721⟩ : ∃ w, w = mUp v712 136 (.ref q721) := ⟨_, rfl⟩
  obtain ⟨a721, ea721⟩ : ∃ w, w = upF a712 84 q721 := ⟨_, rfl⟩
  obtain ⟨f721, ef721⟩ : ∃ w, w = upF f712 84 k721 := ⟨_, rfl⟩
  rw [← ev721, ← ea721, ← ef721] at hP hD
  rw [← ef721] at hK
  refine W.widen (k := 85) (n := 130198) (by decide +kernel) (by decide +kernel) ?_
  refine newRowM 85 (n := 16) (N' := 16) (k := 137) (index := 278) (atype := .int) (ty := .int) hx hb hts iX12_init_in12 hown hin hK hP hD hS hA hl dX12_init_726 (fun h => lv_bipush (v := 16) hx hb dX12_init_727 (by decide) h) (hts (.arrayClass .int) (by decide +kernel)) rfl rfl (fun _ => rfl) (by decide +kernel) (by decide +kernel) (by decide +kernel) (by decide +kernel) (by decide +kernel) dX12_init_729 (by decide) (hts (.fieldLink RX12 278 "OptimaWorksModel" "pairs" "[I") (by decide +kernel)) rfl rfl (by decide +kernel) dX12_init_731 (fun q729 k729 H locs hK hP hD hS => ?_)
  obtain ⟨v729, ev729⟩ : ∃ w, w = mUp v721 137 (.ref q729) := ⟨_, rfl⟩
  obtain ⟨a729, ea729⟩ : ∃ w, w = upF a721 85 q729 := ⟨_, rfl⟩
  obtain ⟨f729, ef729⟩ : ∃ w, w = upF f721 85 k729 := ⟨_, rfl⟩
  rw [← ev729, ← ea729, ← ef729] at hP hD
  rw [← ef729] at hK
  refine W.widen (k := 86) (n := 130214) (by decide +kernel) (by decide +kernel) ?_
  refine newRowM 86 (n := 10) (N' := 10) (k := 139) (index := 281) (atype := .int) (ty := .int) hx hb hts iX12_init_in12 hown hin hK hP hD hS hA hl dX12_init_734 (fun h => lv_bipush (v := 10) hx hb dX12_init_735 (by decide) h) (hts (.arrayClass .int) (by decide +kernel)) rfl rfl (fun _ => rfl) (by decide +kernel) (by decide +kernel) (by decide +kernel) (by decide +kernel) (by decide +kernel) dX12_init_737 (by decide) (hts (.fieldLink RX12 281 "OptimaWorksModel" "with" "[I") (by decide +kernel)) rfl rfl (by decide +kernel) dX12_init_739 (fun q737 k737 H locs hK hP hD hS => ?_)
  obtain ⟨v737, ev737⟩ : ∃ w, w = mUp v729 139 (.ref q737) := ⟨_, rfl⟩
  obtain ⟨a737, ea737⟩ : ∃ w, w = upF a729 86 q737 := ⟨_, rfl⟩
  obtain ⟨f737, ef737⟩ : ∃ w, w = upF f729 86 k737 := ⟨_, rfl⟩
  rw [← ev737, ← ea737, ← ef737] at hP hD
  rw [← ef737] at hK
  refine W.widen (k := 87) (n := 130224) (by decide +kernel) (by decide +kernel) ?_
  refine newRowM 87 (n := 16) (N' := 16) (k := 140) (index := 284) (atype := .int) (ty := .int) hx hb hts iX12_init_in12 hown hin hK hP hD hS hA hl dX12_init_742 (fun h => lv_bipush (v := 16) hx hb dX12_init_743 (by decide) h) (hts (.arrayClass .int) (by decide +kernel)) rfl rfl (fun _ => rfl) (by decide +kernel) (by decide +kernel) (by decide +kernel) (by decide +kernel) (by decide +kernel) dX12_init_745 (by decide) (hts (.fieldLink RX12 284 "OptimaWorksModel" "taker" "[I") (by decide +kernel)) rfl rfl (by decide +kernel) dX12_init_747 (fun q745 k745 H locs hK hP hD hS => ?_)
  obtain ⟨v745, ev745⟩ : ∃ w, w = mUp v737 140 (.ref q745) := ⟨_, rfl⟩
  obtain ⟨a745, ea745⟩ : ∃ w, w = upF a737 87 q745 := ⟨_, rfl⟩
  obtain ⟨f745, ef745⟩ : ∃ w, w = upF f737 87 k745 := ⟨_, rfl⟩
  rw [← ev745, ← ea745, ← ef745] at hP hD
  rw [← ef745] at hK
  refine W.widen (k := 88) (n := 130240) (by decide +kernel) (by decide +kernel) ?_
  refine newRowM 88 (n := 16) (N' := 16) (k := 141) (index := 287) (atype := .int) (ty := .int) hx hb hts iX12_init_in12 hown hin hK hP hD hS hA hl dX12_init_750 (fun h => lv_bipush (v := 16) hx hb dX12_init_751 (by decide) h) (hts (.arrayClass .int) (by decide +kernel)) rfl rfl (fun _ => rfl) (by decide +kernel) (by decide +kernel) (by decide +kernel) (by decide +kernel) (by decide +kernel) dX12_init_753 (by decide) (hts (.fieldLink RX12 287 "OptimaWorksModel" "came" "[I") (by decide +kernel)) rfl rfl (by decide +kernel) dX12_init_755 (fun q753 k753 H locs hK hP hD hS => ?_)
  obtain ⟨v753, ev753⟩ : ∃ w, w = mUp v745 141 (.ref q753) := ⟨_, rfl⟩
  obtain ⟨a753, ea753⟩ : ∃ w, w = upF a745 88 q753 := ⟨_, rfl⟩
  obtain ⟨f753, ef753⟩ : ∃ w, w = upF f745 88 k753 := ⟨_, rfl⟩
  rw [← ev753, ← ea753, ← ef753] at hP hD
  rw [← ef753] at hK
  refine W.widen (k := 89) (n := 130256) (by decide +kernel) (by decide +kernel) ?_
  refine newRowM 89 (n := 17) (N' := 17) (k := 142) (index := 290) (atype := .int) (ty := .int) hx hb hts iX12_init_in12 hown hin hK hP hD hS hA hl dX12_init_758 (fun h => lv_bipush (v := 17) hx hb dX12_init_759 (by decide) h) (hts (.arrayClass .int) (by decide +kernel)) rfl rfl (fun _ => rfl) (by decide +kernel) (by decide +kernel) (by decide +kernel) (by decide +kernel) (by decide +kernel) dX12_init_761 (by decide) (hts (.fieldLink RX12 290 "OptimaWorksModel" "looked" "[I") (by decide +kernel)) rfl rfl (by decide +kernel) dX12_init_763 (fun q761 k761 H locs hK hP hD hS => ?_)
  obtain ⟨v761, ev761⟩ : ∃ w, w = mUp v753 142 (.ref q761) := ⟨_, rfl⟩
  obtain ⟨a761, ea761⟩ : ∃ w, w = upF a753 89 q761 := ⟨_, rfl⟩
  obtain ⟨f761, ef761⟩ : ∃ w, w = upF f753 89 k761 := ⟨_, rfl⟩
  rw [← ev761, ← ea761, ← ef761] at hP hD
  rw [← ef761] at hK
  refine W.widen (k := 90) (n := 130273) (by decide +kernel) (by decide +kernel) ?_
  refine newRowM 90 (n := 10) (N' := 10) (k := 143) (index := 293) (atype := .int) (ty := .int) hx hb hts iX12_init_in12 hown hin hK hP hD hS hA hl dX12_init_766 (fun h => lv_bipush (v := 10) hx hb dX12_init_767 (by decide) h) (hts (.arrayClass .int) (by decide +kernel)) rfl rfl (fun _ => rfl) (by decide +kernel) (by decide +kernel) (by decide +kernel) (by decide +kernel) (by decide +kernel) dX12_init_769 (by decide) (hts (.fieldLink RX12 293 "OptimaWorksModel" "rowValue" "[I") (by decide +kernel)) rfl rfl (by decide +kernel) dX12_init_771 (fun q769 k769 H locs hK hP hD hS => ?_)
  obtain ⟨v769, ev769⟩ : ∃ w, w = mUp v761 143 (.ref q769) := ⟨_, rfl⟩
  obtain ⟨a769, ea769⟩ : ∃ w, w = upF a761 90 q769 := ⟨_, rfl⟩
  obtain ⟨f769, ef769⟩ : ∃ w, w = upF f761 90 k769 := ⟨_, rfl⟩
  rw [← ev769, ← ea769, ← ef769] at hP hD
  rw [← ef769] at hK
  refine W.widen (k := 91) (n := 130283) (by decide +kernel) (by decide +kernel) ?_
  refine newRowM 91 (n := 50000) (N' := 50000) (k := 144) (index := 297) (atype := .int) (ty := .int) hx hb hts iX12_init_in12 hown hin hK hP hD hS hA hl dX12_init_774 (fun h => lv_ldcw (v := 50000) hx hb hown (hts (.constant RX12 296 50000) (by decide +kernel)) dX12_init_775 h) (hts (.arrayClass .int) (by decide +kernel)) rfl rfl (fun _ => rfl) (by decide +kernel) (by decide +kernel) (by decide +kernel) (by decide +kernel) (by decide +kernel) dX12_init_778 (by decide) (hts (.fieldLink RX12 297 "OptimaWorksModel" "listedRow" "[I") (by decide +kernel)) rfl rfl (by decide +kernel) dX12_init_780 (fun q778 k778 H locs hK hP hD hS => ?_)
  obtain ⟨v778, ev778⟩ : ∃ w, w = mUp v769 144 (.ref q778) := ⟨_, rfl⟩
  obtain ⟨a778, ea778⟩ : ∃ w, w = upF a769 91 q778 := ⟨_, rfl⟩
  obtain ⟨f778, ef778⟩ : ∃ w, w = upF f769 91 k778 := ⟨_, rfl⟩
  rw [← ev778, ← ea778, ← ef778] at hP hD
  rw [← ef778] at hK
  refine W.widen (k := 92) (n := 180283) (by decide +kernel) (by decide +kernel) ?_
  refine newIntM (n := (-1)) (k := 145) (index := 300) hx hb hts iX12_init_in12 hown hK hP hD hS hl dX12_init_783 (fun h => lv_iconst (v := (-1)) hx hb dX12_init_784 (by decide) h) (by decide) (hts (.fieldLink RX12 300 "OptimaWorksModel" "listedMany" "I") (by decide +kernel)) rfl rfl (by decide +kernel) dX12_init_785 (fun H locs hP hD hS => ?_)
  obtain ⟨v785, ev785⟩ : ∃ w, w = mUp v778 145 (.int (-1)) := ⟨_, rfl⟩
  rw [← ev785] at hP hD
  refine newRowM 92 (n := 24) (N' := 24) (k := 147) (index := 303) (atype := .int) (ty := .int) hx hb hts iX12_init_in12 hown hin hK hP hD hS hA hl dX12_init_788 (fun h => lv_bipush (v := 24) hx hb dX12_init_789 (by decide) h) (hts (.arrayClass .int) (by decide +kernel)) rfl rfl (fun _ => rfl) (by decide +kernel) (by decide +kernel) (by decide +kernel) (by decide +kernel) (by decide +kernel) dX12_init_791 (by decide) (hts (.fieldLink RX12 303 "OptimaWorksModel" "wants" "[I") (by decide +kernel)) rfl rfl (by decide +kernel) dX12_init_793 (fun q791 k791 H locs hK hP hD hS => ?_)
  obtain ⟨v791, ev791⟩ : ∃ w, w = mUp v785 147 (.ref q791) := ⟨_, rfl⟩
  obtain ⟨a791, ea791⟩ : ∃ w, w = upF a778 92 q791 := ⟨_, rfl⟩
  obtain ⟨f791, ef791⟩ : ∃ w, w = upF f778 92 k791 := ⟨_, rfl⟩
  rw [← ev791, ← ea791, ← ef791] at hP hD
  rw [← ef791] at hK
  refine W.widen (k := 93) (n := 180307) (by decide +kernel) (by decide +kernel) ?_
  refine newRowM 93 (n := 24) (N' := 24) (k := 148) (index := 306) (atype := .int) (ty := .int) hx hb hts iX12_init_in12 hown hin hK hP hD hS hA hl dX12_init_796 (fun h => lv_bipush (v := 24) hx hb dX12_init_797 (by decide) h) (hts (.arrayClass .int) (by decide +kernel)) rfl rfl (fun _ => rfl) (by decide +kernel) (by decide +kernel) (by decide +kernel) (by decide +kernel) (by decide +kernel) dX12_init_799 (by decide) (hts (.fieldLink RX12 306 "OptimaWorksModel" "wantsNot" "[I") (by decide +kernel)) rfl rfl (by decide +kernel) dX12_init_801 (fun q799 k799 H locs hK hP hD hS => ?_)
  obtain ⟨v799, ev799⟩ : ∃ w, w = mUp v791 148 (.ref q799) := ⟨_, rfl⟩
  obtain ⟨a799, ea799⟩ : ∃ w, w = upF a791 93 q799 := ⟨_, rfl⟩
  obtain ⟨f799, ef799⟩ : ∃ w, w = upF f791 93 k799 := ⟨_, rfl⟩
  rw [← ev799, ← ea799, ← ef799] at hP hD
  rw [← ef799] at hK
  refine W.widen (k := 94) (n := 180331) (by decide +kernel) (by decide +kernel) ?_
  refine newRowM 94 (n := 24) (N' := 24) (k := 149) (index := 309) (atype := .int) (ty := .int) hx hb hts iX12_init_in12 hown hin hK hP hD hS hA hl dX12_init_804 (fun h => lv_bipush (v := 24) hx hb dX12_init_805 (by decide) h) (hts (.arrayClass .int) (by decide +kernel)) rfl rfl (fun _ => rfl) (by decide +kernel) (by decide +kernel) (by decide +kernel) (by decide +kernel) (by decide +kernel) dX12_init_807 (by decide) (hts (.fieldLink RX12 309 "OptimaWorksModel" "weights" "[I") (by decide +kernel)) rfl rfl (by decide +kernel) dX12_init_809 (fun q807 k807 H locs hK hP hD hS => ?_)
  obtain ⟨v807, ev807⟩ : ∃ w, w = mUp v799 149 (.ref q807) := ⟨_, rfl⟩
  obtain ⟨a807, ea807⟩ : ∃ w, w = upF a799 94 q807 := ⟨_, rfl⟩
  obtain ⟨f807, ef807⟩ : ∃ w, w = upF f799 94 k807 := ⟨_, rfl⟩
  rw [← ev807, ← ea807, ← ef807] at hP hD
  rw [← ef807] at hK
  refine W.widen (k := 95) (n := 180355) (by decide +kernel) (by decide +kernel) ?_
  refine newRowM 95 (n := 40) (N' := 40) (k := 151) (index := 312) (atype := .int) (ty := .int) hx hb hts iX12_init_in12 hown hin hK hP hD hS hA hl dX12_init_812 (fun h => lv_bipush (v := 40) hx hb dX12_init_813 (by decide) h) (hts (.arrayClass .int) (by decide +kernel)) rfl rfl (fun _ => rfl) (by decide +kernel) (by decide +kernel) (by decide +kernel) (by decide +kernel) (by decide +kernel) dX12_init_815 (by decide) (hts (.fieldLink RX12 312 "OptimaWorksModel" "arcFrom" "[I") (by decide +kernel)) rfl rfl (by decide +kernel) dX12_init_817 (fun q815 k815 H locs hK hP hD hS => ?_)
  obtain ⟨v815, ev815⟩ : ∃ w, w = mUp v807 151 (.ref q815) := ⟨_, rfl⟩
  obtain ⟨a815, ea815⟩ : ∃ w, w = upF a807 95 q815 := ⟨_, rfl⟩
  obtain ⟨f815, ef815⟩ : ∃ w, w = upF f807 95 k815 := ⟨_, rfl⟩
  rw [← ev815, ← ea815, ← ef815] at hP hD
  rw [← ef815] at hK
  refine W.widen (k := 96) (n := 180395) (by decide +kernel) (by decide +kernel) ?_
  refine newRowM 96 (n := 40) (N' := 40) (k := 152) (index := 315) (atype := .int) (ty := .int) hx hb hts iX12_init_in12 hown hin hK hP hD hS hA hl dX12_init_820 (fun h => lv_bipush (v := 40) hx hb dX12_init_821 (by decide) h) (hts (.arrayClass .int) (by decide +kernel)) rfl rfl (fun _ => rfl) (by decide +kernel) (by decide +kernel) (by decide +kernel) (by decide +kernel) (by decide +kernel) dX12_init_823 (by decide) (hts (.fieldLink RX12 315 "OptimaWorksModel" "arcTo" "[I") (by decide +kernel)) rfl rfl (by decide +kernel) dX12_init_825 (fun q823 k823 H locs hK hP hD hS => ?_)
  obtain ⟨v823, ev823⟩ : ∃ w, w = mUp v815 152 (.ref q823) := ⟨_, rfl⟩
  obtain ⟨a823, ea823⟩ : ∃ w, w = upF a815 96 q823 := ⟨_, rfl⟩
  obtain ⟨f823, ef823⟩ : ∃ w, w = upF f815 96 k823 := ⟨_, rfl⟩
  rw [← ev823, ← ea823, ← ef823] at hP hD
  rw [← ef823] at hK
  refine W.widen (k := 97) (n := 180435) (by decide +kernel) (by decide +kernel) ?_
  refine newRowM 97 (n := 40) (N' := 40) (k := 153) (index := 318) (atype := .int) (ty := .int) hx hb hts iX12_init_in12 hown hin hK hP hD hS hA hl dX12_init_828 (fun h => lv_bipush (v := 40) hx hb dX12_init_829 (by decide) h) (hts (.arrayClass .int) (by decide +kernel)) rfl rfl (fun _ => rfl) (by decide +kernel) (by decide +kernel) (by decide +kernel) (by decide +kernel) (by decide +kernel) dX12_init_831 (by decide) (hts (.fieldLink RX12 318 "OptimaWorksModel" "arcRoom" "[I") (by decide +kernel)) rfl rfl (by decide +kernel) dX12_init_833 (fun q831 k831 H locs hK hP hD hS => ?_)
  obtain ⟨v831, ev831⟩ : ∃ w, w = mUp v823 153 (.ref q831) := ⟨_, rfl⟩
  obtain ⟨a831, ea831⟩ : ∃ w, w = upF a823 97 q831 := ⟨_, rfl⟩
  obtain ⟨f831, ef831⟩ : ∃ w, w = upF f823 97 k831 := ⟨_, rfl⟩
  rw [← ev831, ← ea831, ← ef831] at hP hD
  rw [← ef831] at hK
  refine W.widen (k := 98) (n := 180475) (by decide +kernel) (by decide +kernel) ?_
  refine newRowM 98 (n := 40) (N' := 40) (k := 154) (index := 321) (atype := .int) (ty := .int) hx hb hts iX12_init_in12 hown hin hK hP hD hS hA hl dX12_init_836 (fun h => lv_bipush (v := 40) hx hb dX12_init_837 (by decide) h) (hts (.arrayClass .int) (by decide +kernel)) rfl rfl (fun _ => rfl) (by decide +kernel) (by decide +kernel) (by decide +kernel) (by decide +kernel) (by decide +kernel) dX12_init_839 (by decide) (hts (.fieldLink RX12 321 "OptimaWorksModel" "arcCost" "[I") (by decide +kernel)) rfl rfl (by decide +kernel) dX12_init_841 (fun q839 k839 H locs hK hP hD hS => ?_)
  obtain ⟨v839, ev839⟩ : ∃ w, w = mUp v831 154 (.ref q839) := ⟨_, rfl⟩
  obtain ⟨a839, ea839⟩ : ∃ w, w = upF a831 98 q839 := ⟨_, rfl⟩
  obtain ⟨f839, ef839⟩ : ∃ w, w = upF f831 98 k839 := ⟨_, rfl⟩
  rw [← ev839, ← ea839, ← ef839] at hP hD
  rw [← ef839] at hK
  refine W.widen (k := 99) (n := 180515) (by decide +kernel) (by decide +kernel) ?_
  refine newRowM 99 (n := 40) (N' := 40) (k := 155) (index := 324) (atype := .int) (ty := .int) hx hb hts iX12_init_in12 hown hin hK hP hD hS hA hl dX12_init_844 (fun h => lv_bipush (v := 40) hx hb dX12_init_845 (by decide) h) (hts (.arrayClass .int) (by decide +kernel)) rfl rfl (fun _ => rfl) (by decide +kernel) (by decide +kernel) (by decide +kernel) (by decide +kernel) (by decide +kernel) dX12_init_847 (by decide) (hts (.fieldLink RX12 324 "OptimaWorksModel" "flow" "[I") (by decide +kernel)) rfl rfl (by decide +kernel) dX12_init_849 (fun q847 k847 H locs hK hP hD hS => ?_)
  obtain ⟨v847, ev847⟩ : ∃ w, w = mUp v839 155 (.ref q847) := ⟨_, rfl⟩
  obtain ⟨a847, ea847⟩ : ∃ w, w = upF a839 99 q847 := ⟨_, rfl⟩
  obtain ⟨f847, ef847⟩ : ∃ w, w = upF f839 99 k847 := ⟨_, rfl⟩
  rw [← ev847, ← ea847, ← ef847] at hP hD
  rw [← ef847] at hK
  refine W.widen (k := 100) (n := 180555) (by decide +kernel) (by decide +kernel) ?_
  refine newRowM 100 (n := 12) (N' := 12) (k := 156) (index := 327) (atype := .int) (ty := .int) hx hb hts iX12_init_in12 hown hin hK hP hD hS hA hl dX12_init_852 (fun h => lv_bipush (v := 12) hx hb dX12_init_853 (by decide) h) (hts (.arrayClass .int) (by decide +kernel)) rfl rfl (fun _ => rfl) (by decide +kernel) (by decide +kernel) (by decide +kernel) (by decide +kernel) (by decide +kernel) dX12_init_855 (by decide) (hts (.fieldLink RX12 327 "OptimaWorksModel" "price" "[I") (by decide +kernel)) rfl rfl (by decide +kernel) dX12_init_857 (fun q855 k855 H locs hK hP hD hS => ?_)
  obtain ⟨v855, ev855⟩ : ∃ w, w = mUp v847 156 (.ref q855) := ⟨_, rfl⟩
  obtain ⟨a855, ea855⟩ : ∃ w, w = upF a847 100 q855 := ⟨_, rfl⟩
  obtain ⟨f855, ef855⟩ : ∃ w, w = upF f847 100 k855 := ⟨_, rfl⟩
  rw [← ev855, ← ea855, ← ef855] at hP hD
  rw [← ef855] at hK
  refine W.widen (k := 101) (n := 180567) (by decide +kernel) (by decide +kernel) ?_
  refine newRowM 101 (n := 12) (N' := 12) (k := 157) (index := 330) (atype := .int) (ty := .int) hx hb hts iX12_init_in12 hown hin hK hP hD hS hA hl dX12_init_860 (fun h => lv_bipush (v := 12) hx hb dX12_init_861 (by decide) h) (hts (.arrayClass .int) (by decide +kernel)) rfl rfl (fun _ => rfl) (by decide +kernel) (by decide +kernel) (by decide +kernel) (by decide +kernel) (by decide +kernel) dX12_init_863 (by decide) (hts (.fieldLink RX12 330 "OptimaWorksModel" "by" "[I") (by decide +kernel)) rfl rfl (by decide +kernel) dX12_init_865 (fun q863 k863 H locs hK hP hD hS => ?_)
  obtain ⟨v863, ev863⟩ : ∃ w, w = mUp v855 157 (.ref q863) := ⟨_, rfl⟩
  obtain ⟨a863, ea863⟩ : ∃ w, w = upF a855 101 q863 := ⟨_, rfl⟩
  obtain ⟨f863, ef863⟩ : ∃ w, w = upF f855 101 k863 := ⟨_, rfl⟩
  rw [← ev863, ← ea863, ← ef863] at hP hD
  rw [← ef863] at hK
  refine W.widen (k := 102) (n := 180579) (by decide +kernel) (by decide +kernel) ?_
  refine newRowM 102 (n := 12) (N' := 12) (k := 158) (index := 333) (atype := .int) (ty := .int) hx hb hts iX12_init_in12 hown hin hK hP hD hS hA hl dX12_init_868 (fun h => lv_bipush (v := 12) hx hb dX12_init_869 (by decide) h) (hts (.arrayClass .int) (by decide +kernel)) rfl rfl (fun _ => rfl) (by decide +kernel) (by decide +kernel) (by decide +kernel) (by decide +kernel) (by decide +kernel) dX12_init_871 (by decide) (hts (.fieldLink RX12 333 "OptimaWorksModel" "far" "[I") (by decide +kernel)) rfl rfl (by decide +kernel) dX12_init_873 (fun q871 k871 H locs hK hP hD hS => ?_)
  obtain ⟨v871, ev871⟩ : ∃ w, w = mUp v863 158 (.ref q871) := ⟨_, rfl⟩
  obtain ⟨a871, ea871⟩ : ∃ w, w = upF a863 102 q871 := ⟨_, rfl⟩
  obtain ⟨f871, ef871⟩ : ∃ w, w = upF f863 102 k871 := ⟨_, rfl⟩
  rw [← ev871, ← ea871, ← ef871] at hP hD
  rw [← ef871] at hK
  refine W.widen (k := 103) (n := 180591) (by decide +kernel) (by decide +kernel) ?_
  refine newRowM 103 (n := 12) (N' := 12) (k := 159) (index := 336) (atype := .int) (ty := .int) hx hb hts iX12_init_in12 hown hin hK hP hD hS hA hl dX12_init_876 (fun h => lv_bipush (v := 12) hx hb dX12_init_877 (by decide) h) (hts (.arrayClass .int) (by decide +kernel)) rfl rfl (fun _ => rfl) (by decide +kernel) (by decide +kernel) (by decide +kernel) (by decide +kernel) (by decide +kernel) dX12_init_879 (by decide) (hts (.fieldLink RX12 336 "OptimaWorksModel" "joined" "[I") (by decide +kernel)) rfl rfl (by decide +kernel) dX12_init_881 (fun q879 k879 H locs hK hP hD hS => ?_)
  obtain ⟨v879, ev879⟩ : ∃ w, w = mUp v871 159 (.ref q879) := ⟨_, rfl⟩
  obtain ⟨a879, ea879⟩ : ∃ w, w = upF a871 103 q879 := ⟨_, rfl⟩
  obtain ⟨f879, ef879⟩ : ∃ w, w = upF f871 103 k879 := ⟨_, rfl⟩
  rw [← ev879, ← ea879, ← ef879] at hP hD
  rw [← ef879] at hK
  refine W.widen (k := 104) (n := 180603) (by decide +kernel) (by decide +kernel) ?_
  refine newRowM 104 (n := 8) (N' := 8) (k := 160) (index := 339) (atype := .int) (ty := .int) hx hb hts iX12_init_in12 hown hin hK hP hD hS hA hl dX12_init_884 (fun h => lv_bipush (v := 8) hx hb dX12_init_885 (by decide) h) (hts (.arrayClass .int) (by decide +kernel)) rfl rfl (fun _ => rfl) (by decide +kernel) (by decide +kernel) (by decide +kernel) (by decide +kernel) (by decide +kernel) dX12_init_887 (by decide) (hts (.fieldLink RX12 339 "OptimaWorksModel" "member1" "[I") (by decide +kernel)) rfl rfl (by decide +kernel) dX12_init_889 (fun q887 k887 H locs hK hP hD hS => ?_)
  obtain ⟨v887, ev887⟩ : ∃ w, w = mUp v879 160 (.ref q887) := ⟨_, rfl⟩
  obtain ⟨a887, ea887⟩ : ∃ w, w = upF a879 104 q887 := ⟨_, rfl⟩
  obtain ⟨f887, ef887⟩ : ∃ w, w = upF f879 104 k887 := ⟨_, rfl⟩
  rw [← ev887, ← ea887, ← ef887] at hP hD
  rw [← ef887] at hK
  refine W.widen (k := 105) (n := 180611) (by decide +kernel) (by decide +kernel) ?_
  refine newRowM 105 (n := 8) (N' := 8) (k := 161) (index := 342) (atype := .int) (ty := .int) hx hb hts iX12_init_in12 hown hin hK hP hD hS hA hl dX12_init_892 (fun h => lv_bipush (v := 8) hx hb dX12_init_893 (by decide) h) (hts (.arrayClass .int) (by decide +kernel)) rfl rfl (fun _ => rfl) (by decide +kernel) (by decide +kernel) (by decide +kernel) (by decide +kernel) (by decide +kernel) dX12_init_895 (by decide) (hts (.fieldLink RX12 342 "OptimaWorksModel" "order" "[I") (by decide +kernel)) rfl rfl (by decide +kernel) dX12_init_897 (fun q895 k895 H locs hK hP hD hS => ?_)
  obtain ⟨v895, ev895⟩ : ∃ w, w = mUp v887 161 (.ref q895) := ⟨_, rfl⟩
  obtain ⟨a895, ea895⟩ : ∃ w, w = upF a887 105 q895 := ⟨_, rfl⟩
  obtain ⟨f895, ef895⟩ : ∃ w, w = upF f887 105 k895 := ⟨_, rfl⟩
  rw [← ev895, ← ea895, ← ef895] at hP hD
  rw [← ef895] at hK
  refine W.widen (k := 106) (n := 180619) (by decide +kernel) (by decide +kernel) ?_
  refine newRowM 106 (n := 8) (N' := 8) (k := 162) (index := 345) (atype := .int) (ty := .int) hx hb hts iX12_init_in12 hown hin hK hP hD hS hA hl dX12_init_900 (fun h => lv_bipush (v := 8) hx hb dX12_init_901 (by decide) h) (hts (.arrayClass .int) (by decide +kernel)) rfl rfl (fun _ => rfl) (by decide +kernel) (by decide +kernel) (by decide +kernel) (by decide +kernel) (by decide +kernel) dX12_init_903 (by decide) (hts (.fieldLink RX12 345 "OptimaWorksModel" "tourBest" "[I") (by decide +kernel)) rfl rfl (by decide +kernel) dX12_init_905 (fun q903 k903 H locs hK hP hD hS => ?_)
  obtain ⟨v903, ev903⟩ : ∃ w, w = mUp v895 162 (.ref q903) := ⟨_, rfl⟩
  obtain ⟨a903, ea903⟩ : ∃ w, w = upF a895 106 q903 := ⟨_, rfl⟩
  obtain ⟨f903, ef903⟩ : ∃ w, w = upF f895 106 k903 := ⟨_, rfl⟩
  rw [← ev903, ← ea903, ← ef903] at hP hD
  rw [← ef903] at hK
  refine W.widen (k := 107) (n := 180627) (by decide +kernel) (by decide +kernel) ?_
  have e1 : fM v903 = LM a903 := by rw [ev903, ev895, ev887, ev879, ev871, ev863, ev855, ev847, ev839, ev831, ev823, ev815, ev807, ev799, ev791, ev785, ev778, ev769, ev761, ev753, ev745, ev737, ev729, ev721, ev712, ev704, ev696, ev688, ev680, ev672, ev664, ev656, ev647, ev638, ev630, ev622, ev614, ev606, ev598, ev590, ev582, ev573, ev564, ev557, ev549, ev541, ev533, ev525, ev516, ev508, ev500, ev492, ev484, ev475, ev466, ev457, ev448, ev440, ev431, ev422, ev414, ev406, ev398, ev390, ev382, ev374, ev366, ev358, ev350, ev342, ev333, ev324, ev315, ev306, ev297, ev288, ev279, ev270, ev261, ev252, ev244, ev236, ev228, ev220, ev212, ev203, ev194, ev186, ev178, ev170, ev162, ev154, ev148, ev141, ev133, ev125, ev117, ev109, ev101, ev95, ev90, ev83, ev74, ev65, ev56, ev48, ev40, ev32, ev24, ev16, ev8, ea903, ea895, ea887, ea879, ea871, ea863, ea855, ea847, ea839, ea831, ea823, ea815, ea807, ea799, ea791, ea778, ea769, ea761, ea753, ea745, ea737, ea729, ea721, ea712, ea704, ea696, ea688, ea680, ea672, ea664, ea656, ea647, ea638, ea630, ea622, ea614, ea606, ea598, ea590, ea582, ea573, ea564, ea557, ea549, ea541, ea533, ea525, ea516, ea508, ea500, ea492, ea484, ea475, ea466, ea457, ea448, ea440, ea431, ea422, ea414, ea406, ea398, ea390, ea382, ea374, ea366, ea358, ea350, ea342, ea333, ea324, ea315, ea306, ea297, ea288, ea279, ea270, ea261, ea252, ea244, ea236, ea228, ea220, ea212, ea203, ea194, ea186, ea178, ea170, ea162, ea154, ea141, ea133, ea125, ea117, ea109, ea101, ea83, ea74, ea65, ea56, ea48, ea40, ea32, ea24, ea16, ea8]; exact eM1 _ _ _ _ _ _ _ _ _ _ _ _ _ _ _ _ _ _ _ _ _ _ _ _ _ _ _ _ _ _ _ _ _ _ _ _ _ _ _ _ _ _ _ _ _ _ _ _ _ _ _ _ _ _ _ _ _ _ _ _ _ _ _ _ _ _ _ _ _ _ _ _ _ _ _ _ _ _ _ _ _ _ _ _ _ _ _ _ _ _ _ _ _ _ _ _ _ _ _ _ _ _ _ _ _ _ _
  rw [e1, LM_eq] at hP hD
  exact W.vret hx hb hr (fun t ht hW => ⟨⟨(a903, f903), rfl, trivial, by rw [ht]; exact hP, va_K.moved hW.alike hK, hD⟩, hS.F ht⟩) hS.2.2 dX12_init_908
end
section
def wsX2_init : List Cond := .code yX2_init cX2_init 1 none :: ([.methodLink RX2 3 objectInit, .instanceMethod objectInit, .code objectInit ⟨#[0xb1]⟩ 1 none, .arrayClass .int, .fieldLink RX2 11 "OptimaWorks$NetDesk" "from" "[I", .fieldLink RX2 15 "OptimaWorks$NetDesk" "to" "[I", .fieldLink RX2 18 "OptimaWorks$NetDesk" "room" "[I", .fieldLink RX2 21 "OptimaWorks$NetDesk" "cost" "[I", .fieldLink RX2 24 "OptimaWorks$NetDesk" "free" "[I", .fieldLink RX2 27 "OptimaWorks$NetDesk" "before" "[I", .fieldLink RX2 30 "OptimaWorks$NetDesk" "flow" "[I", .fieldLink RX2 33 "OptimaWorks$NetDesk" "length" "[I", .fieldLink RX2 36 "OptimaWorks$NetDesk" "stop" "[I", .fieldLink RX2 39 "OptimaWorks$NetDesk" "price" "[I", .fieldLink RX2 42 "OptimaWorks$NetDesk" "rest" "[I"] ++ wsX20)
def wX2 (a : Nat → Nat) (k : Nat → ClassId) (h0 : Nat) : va_W := [(h0, .inr (2, [.int 0, .ref (a 0), .ref (a 1), .ref (a 2), .ref (a 3), .int 0, .ref (a 4), .ref (a 5), .ref (a 6), .ref (a 7), .ref (a 8), .int 0, .ref (a 9), .ref (a 10)])), ((a 0), .inl ((k 0), 40, .inl (fun _ => 0))), ((a 1), .inl ((k 1), 40, .inl (fun _ => 0))), ((a 2), .inl ((k 2), 40, .inl (fun _ => 0))), ((a 3), .inl ((k 3), 40, .inl (fun _ => 0))), ((a 4), .inl ((k 4), 144, .inl (fun _ => 0))), ((a 5), .inl ((k 5), 12, .inl (fun _ => 0))), ((a 6), .inl ((k 6), 40, .inl (fun _ => 0))), ((a 7), .inl ((k 7), 12, .inl (fun _ => 0))), ((a 8), .inl ((k 8), 8, .inl (fun _ => 0))), ((a 9), .inl ((k 9), 64, .inl (fun _ => 0))), ((a 10), .inl ((k 10), 1024, .inl (fun _ => 0)))]
def tX2 (k : Nat → ClassId) : List (ClassId × FieldType) := [((k 0), .int), ((k 1), .int), ((k 2), .int), ((k 3), .int), ((k 4), .int), ((k 5), .int), ((k 6), .int), ((k 7), .int), ((k 8), .int), ((k 9), .int), ((k 10), .int)]
theorem dX2_init_0 : decode cX2_init 0 = .ok (.aload_n 0, 1) := by decide +kernel
theorem dX2_init_1 : decode cX2_init 1 = .ok (.invokespecial 3, 3) := by decide +kernel
theorem dX2_init_4 : decode cX2_init 4 = .ok (.aload_n 0, 1) := by decide +kernel
theorem dX2_init_5 : decode cX2_init 5 = .ok (.bipush 40, 2) := by decide +kernel
theorem dX2_init_7 : decode cX2_init 7 = .ok (.newarray .int, 2) := by decide +kernel
theorem dX2_init_9 : decode cX2_init 9 = .ok (.putfield 11, 3) := by decide +kernel
theorem dX2_init_12 : decode cX2_init 12 = .ok (.aload_n 0, 1) := by decide +kernel
theorem dX2_init_13 : decode cX2_init 13 = .ok (.bipush 40, 2) := by decide +kernel
theorem dX2_init_15 : decode cX2_init 15 = .ok (.newarray .int, 2) := by decide +kernel
theorem dX2_init_17 : decode cX2_init 17 = .ok (.putfield 15, 3) := by decide +kernel
theorem dX2_init_20 : decode cX2_init 20 = .ok (.aload_n 0, 1) := by decide +kernel
theorem dX2_init_21 : decode cX2_init 21 = .ok (.bipush 40, 2) := by decide +kernel
theorem dX2_init_23 : decode cX2_init 23 = .ok (.newarray .int, 2) := by decide +kernel
theorem dX2_init_25 : decode cX2_init 25 = .ok (.putfield 18, 3) := by decide +kernel
theorem dX2_init_28 : decode cX2_init 28 = .ok (.aload_n 0, 1) := by decide +kernel
theorem dX2_init_29 : decode cX2_init 29 = .ok (.bipush 40, 2) := by decide +kernel
theorem dX2_init_31 : decode cX2_init 31 = .ok (.newarray .int, 2) := by decide +kernel
theorem dX2_init_33 : decode cX2_init 33 = .ok (.putfield 21, 3) := by decide +kernel
theorem dX2_init_36 : decode cX2_init 36 = .ok (.aload_n 0, 1) := by decide +kernel
theorem dX2_init_37 : decode cX2_init 37 = .ok (.sipush 144, 3) := by decide +kernel
theorem dX2_init_40 : decode cX2_init 40 = .ok (.newarray .int, 2) := by decide +kernel
theorem dX2_init_42 : decode cX2_init 42 = .ok (.putfield 24, 3) := by decide +kernel
theorem dX2_init_45 : decode cX2_init 45 = .ok (.aload_n 0, 1) := by decide +kernel
theorem dX2_init_46 : decode cX2_init 46 = .ok (.bipush 12, 2) := by decide +kernel
theorem dX2_init_48 : decode cX2_init 48 = .ok (.newarray .int, 2) := by decide +kernel
theorem dX2_init_50 : decode cX2_init 50 = .ok (.putfield 27, 3) := by decide +kernel
theorem dX2_init_53 : decode cX2_init 53 = .ok (.aload_n 0, 1) := by decide +kernel
theorem dX2_init_54 : decode cX2_init 54 = .ok (.bipush 40, 2) := by decide +kernel
theorem dX2_init_56 : decode cX2_init 56 = .ok (.newarray .int, 2) := by decide +kernel
theorem dX2_init_58 : decode cX2_init 58 = .ok (.putfield 30, 3) := by decide +kernel
theorem dX2_init_61 : decode cX2_init 61 = .ok (.aload_n 0, 1) := by decide +kernel
theorem dX2_init_62 : decode cX2_init 62 = .ok (.bipush 12, 2) := by decide +kernel
theorem dX2_init_64 : decode cX2_init 64 = .ok (.newarray .int, 2) := by decide +kernel
theorem dX2_init_66 : decode cX2_init 66 = .ok (.putfield 33, 3) := by decide +kernel
theorem dX2_init_69 : decode cX2_init 69 = .ok (.aload_n 0, 1) := by decide +kernel
theorem dX2_init_70 : decode cX2_init 70 = .ok (.bipush 8, 2) := by decide +kernel
theorem dX2_init_72 : decode cX2_init 72 = .ok (.newarray .int, 2) := by decide +kernel
theorem dX2_init_74 : decode cX2_init 74 = .ok (.putfield 36, 3) := by decide +kernel
theorem dX2_init_77 : decode cX2_init 77 = .ok (.aload_n 0, 1) := by decide +kernel
theorem dX2_init_78 : decode cX2_init 78 = .ok (.bipush 64, 2) := by decide +kernel
theorem dX2_init_80 : decode cX2_init 80 = .ok (.newarray .int, 2) := by decide +kernel
theorem dX2_init_82 : decode cX2_init 82 = .ok (.putfield 39, 3) := by decide +kernel
theorem dX2_init_85 : decode cX2_init 85 = .ok (.aload_n 0, 1) := by decide +kernel
theorem dX2_init_86 : decode cX2_init 86 = .ok (.sipush 1024, 3) := by decide +kernel
theorem dX2_init_89 : decode cX2_init 89 = .ok (.newarray .int, 2) := by decide +kernel
theorem dX2_init_91 : decode cX2_init 91 = .ok (.putfield 42, 3) := by decide +kernel
theorem dX2_init_94 : decode cX2_init 94 = .ok (.return_, 1) := by decide +kernel
theorem iX2_init_in2 : ∀ w ∈ wsX20, w ∈ wsX2_init := fun _ h => List.mem_cons_of_mem _ (List.mem_append_right _ h)
set_option maxHeartbeats 4000000 in
set_option maxRecDepth 100000 in
/-- NetDesk(): its rows come -/
theorem c_X2_init (l : Launch) (dC : Nat → ClassId) (dI : Nat → Nat → Nat) (h0 : Nat) (sz : Nat) : Met l yX2_init wsX2_init ({ frames := 1, cells := 11, slots := 1464, locals := 12 }) (va_Pc [.ref h0] (fun U => U.heap.size = sz ∧ va_P (dC, dI) vwCl [(h0, .inr (2, [.int 0, .null, .null, .null, .null, .int 0, .null, .null, .null, .null, .null, .int 0, .null, .null]))] U.heap ∧ va_K (dC, dI) vwCl [] U ∧ va_D (fun _ => True) [(h0, .inr (2, [.int 0, .null, .null, .null, .null, .int 0, .null, .null, .null, .null, .null, .int 0, .null, .null]))])) (va_Qv (fun _ : (Nat → Nat) × (Nat → ClassId) => True) (fun u t => va_P (dC, dI) vwCl (wX2 u.1 u.2 h0) t.heap ∧ va_K (dC, dI) vwCl (tX2 u.2) t ∧ va_D (va_A [(h0, .inr (2, [.int 0, .null, .null, .null, .null, .int 0, .null, .null, .null, .null, .null, .int 0, .null, .null]))] sz) (wX2 u.1 u.2 h0)) (va_A [(h0, .inr (2, [.int 0, .null, .null, .null, .null, .int 0, .null, .null, .null, .null, .null, .int 0, .null, .null]))] sz)) 11 1464 (va_A [(h0, .inr (2, [.int 0, .null, .null, .null, .null, .int 0, .null, .null, .null, .null, .null, .int 0, .null, .null]))] sz) := by
  refine Met.ofW (cc := cX2_init) (maxL := 1) (ret := none) (by decide) rfl ?_
  intro p e s m args below meth c s₁ B hml hv
  obtain ⟨rfl, hsz, hP, hK, hD0⟩ := hv
  have hx := B.exec
  have hb := B.bytes
  have hr := B.returns
  have hts := atoms_spec (ws := wsX2_init) B.pre
  have hown : s.vm.findClass RX2 = some m.cls := findClass_of_methodNamed B.named
  have hlocks := B.notSynchronized
  have hin : meth.name = "<init>" := (name_of_methodNamed B.named B.method).1
  subst hsz
  have hD := hD0.self (sz := s.heap.size)
  generalize hAe : va_A [(h0, .inr (2, [.int 0, .null, .null, .null, .null, .int 0, .null, .null, .null, .null, .null, .int 0, .null, .null]))] s.heap.size = A at hD ⊢
  have hA : ∀ q : Nat, s.heap.size ≤ q → A q := fun q h => by rw [← hAe]; exact Or.inr h
  have hS : va_S A s.heap s.heap [] := va_S.rf
  have hP : va_P (dC, dI) vwCl [(h0, .inr (2, [.int 0, .null, .null, .null, .null, .int 0, .null, .null, .null, .null, .null, .int 0, .null, .null]))] s.heap := hP
  have hl := lv_entry ([.ref h0]) (n := 1) (Nat.le_of_ble_eq_true rfl)
  rw [lg_entry_eq]
  generalize (lg_sl ([.ref h0]) ++ List.replicate (1 - (lg_sl ([.ref h0])).length) Slot.unset).toArray = ls at hl ⊢
  have hl : lv_has ls 1 [(0, .ref h0)] := hl
  refine lv_aload_n hx hb dX2_init_0 rfl (lv_at hl 0 rfl) ?_
  refine W.objInit hx hb hown (hts (.methodLink RX2 3 objectInit) (by decide +kernel)) (hts (.instanceMethod objectInit) (by decide +kernel)) (hts (.code objectInit ⟨#[0xb1]⟩ 1 none) (by decide +kernel)) rfl (by rw [hml]; exact hl.1) rfl dX2_init_1 (by decide +kernel) (Nat.le_of_ble_eq_true rfl) ?_
  refine W.eq (g2 := F0 m 4 ls []) rfl ?_
  refine lv_aload_n hx hb dX2_init_4 rfl (lv_at hl 0 rfl) ?_
  refine lv_bipush (v := 40) hx hb dX2_init_5 (by decide) ?_
  refine va_newa (atype := .int) (ty := .int) (N' := 40) (a0 := (40, .inl (fun _ => 0))) hx hb (hts (.arrayClass .int) (by decide +kernel)) rfl hK hP hD hS hA (fun _ => rfl) (by decide) (by decide) (by decide +kernel) (by decide +kernel) (by decide +kernel) dX2_init_7 (fun q7 k7 H hK hP hD hS => ?_)
  have hP : va_P (dC, dI) vwCl [(h0, .inr (2, [.int 0, .null, .null, .null, .null, .int 0, .null, .null, .null, .null, .null, .int 0, .null, .null])), (q7, .inl (k7, 40, .inl (fun _ => 0)))] H := hP
  have hD : va_D A [(h0, .inr (2, [.int 0, .null, .null, .null, .null, .int 0, .null, .null, .null, .null, .null, .int 0, .null, .null])), (q7, .inl (k7, 40, .inl (fun _ => 0)))] := hD
  have hK : va_K (dC, dI) vwCl [(k7, .int)] s := hK
  refine W.widen (k := 1) (n := 40) (by decide +kernel) (by decide +kernel) ?_
  refine va_putF (D := (dC, dI)) (ci := 2) (v := .ref q7) (ty := .array .int) (C := RX2) (T := TX2) (N := 14) hx hb hts iX2_init_in2 tyX2 tyX2_ok nmX2 hown hK hP hD hS 0 rfl rfl 1 (by decide) (hts (.fieldLink RX2 11 "OptimaWorks$NetDesk" "from" "[I") (by decide +kernel)) (fun _ h9 => h9) rfl hin rfl (by decide +kernel) rfl rfl (Nat.le_of_ble_eq_true rfl) dX2_init_9 (fun H locs hP hD hS => ?_)
  have hP : va_P (dC, dI) vwCl [(h0, .inr (2, [.int 0, .ref q7, .null, .null, .null, .int 0, .null, .null, .null, .null, .null, .int 0, .null, .null])), (q7, .inl (k7, 40, .inl (fun _ => 0)))] H := hP
  have hD : va_D A [(h0, .inr (2, [.int 0, .ref q7, .null, .null, .null, .int 0, .null, .null, .null, .null, .null, .int 0, .null, .null])), (q7, .inl (k7, 40, .inl (fun _ => 0)))] := hD
  refine lv_aload_n hx hb dX2_init_12 rfl (lv_at hl 0 rfl) ?_
  refine lv_bipush (v := 40) hx hb dX2_init_13 (by decide) ?_
  refine va_newa (atype := .int) (ty := .int) (N' := 40) (a0 := (40, .inl (fun _ => 0))) hx hb (hts (.arrayClass .int) (by decide +kernel)) rfl hK hP hD hS hA (fun _ => rfl) (by decide) (by decide) (by decide +kernel) (by decide +kernel) (by decide +kernel) dX2_init_15 (fun q15 k15 H hK hP hD hS => ?_)
  have hP : va_P (dC, dI) vwCl [(h0, .inr (2, [.int 0, .ref q7, .null, .null, .null, .int 0, .null, .null, .null, .null, .null, .int 0, .null, .null])), (q7, .inl (k7, 40, .inl (fun _ => 0))), (q15, .inl (k15, 40, .inl (fun _ => 0)))] H := hP
  have hD : va_D A [(h0, .inr (2, [.int 0, .ref q7, .null, .null, .null, .int 0, .null, .null, .null, .null, .null, .int 0, .null, .null])), (q7, .inl (k7, 40, .inl (fun _ => 0))), (q15, .inl (k15, 40, .inl (fun _ => 0)))] := hD
  have hK : va_K (dC, dI) vwCl [(k7, .int), (k15, .int)] s := hK
  refine W.widen (k := 2) (n := 80) (by decide +kernel) (by decide +kernel) ?_
  refine va_putF (D := (dC, dI)) (ci := 2) (v := .ref q15) (ty := .array .int) (C := RX2) (T := TX2) (N := 14) hx hb hts iX2_init_in2 tyX2 tyX2_ok nmX2 hown hK hP hD hS 0 rfl rfl 2 (by decide) (hts (.fieldLink RX2 15 "OptimaWorks$NetDesk" "to" "[I") (by decide +kernel)) (fun _ h9 => h9) rfl hin rfl (by decide +kernel) rfl rfl (Nat.le_of_ble_eq_true rfl) dX2_init_17 (fun H locs hP hD hS => ?_)
  have hP : va_P (dC, dI) vwCl [(h0, .inr (2, [.int 0, .ref q7, .ref q15, .null, .null, .int 0, .null, .null, .null, .null, .null, .int 0, .null, .null])), (q7, .inl (k7, 40, .inl (fun _ => 0))), (q15, .inl (k15, 40, .inl (fun _ => 0)))] H := hP
  have hD : va_D A [(h0, .inr (2, [.int 0, .ref q7, .ref q15, .null, .null, .int 0, .null, .null, .null, .null, .null, .int 0, .null, .null])), (q7, .inl (k7, 40, .inl (fun _ => 0))), (q15, .inl (k15, 40, .inl (fun _ => 0)))] := hD
  refine lv_aload_n hx hb dX2_init_20 rfl (lv_at hl 0 rfl) ?_
  refine lv_bipush (v := 40) hx hb dX2_init_21 (by decide) ?_
  refine va_newa (atype := .int) (ty := .int) (N' := 40) (a0 := (40, .inl (fun _ => 0))) hx hb (hts (.arrayClass .int) (by decide +kernel)) rfl hK hP hD hS hA (fun _ => rfl) (by decide) (by decide) (by decide +kernel) (by decide +kernel) (by decide +kernel) dX2_init_23 (fun q23 k23 H hK hP hD hS => ?_)
  have hP : va_P (dC, dI) vwCl [(h0, .inr (2, [.int 0, .ref q7, .ref q15, .null, .null, .int 0, .null, .null, .null, .null, .null, .int 0, .null, .null])), (q7, .inl (k7, 40, .inl (fun _ => 0))), (q15, .inl (k15, 40, .inl (fun _ => 0))), (q23, .inl (k23, 40, .inl (fun _ => 0)))] H := hP
  have hD : va_D A [(h0, .inr (2, [.int 0, .ref q7, .ref q15, .null, .null, .int 0, .null, .null, .null, .null, .null, .int 0, .null, .null])), (q7, .inl (k7, 40, .inl (fun _ => 0))), (q15, .inl (k15, 40, .inl (fun _ => 0))), (q23, .inl (k23, 40, .inl (fun _ => 0)))] := hD
  have hK : va_K (dC, dI) vwCl [(k7, .int), (k15, .int), (k23, .int)] s := hK
  refine W.widen (k := 3) (n := 120) (by decide +kernel) (by decide +kernel) ?_
  refine va_putF (D := (dC, dI)) (ci := 2) (v := .ref q23) (ty := .array .int) (C := RX2) (T := TX2) (N := 14) hx hb hts iX2_init_in2 tyX2 tyX2_ok nmX2 hown hK hP hD hS 0 rfl rfl 3 (by decide) (hts (.fieldLink RX2 18 "OptimaWorks$NetDesk" "room" "[I") (by decide +kernel)) (fun _ h9 => h9) rfl hin rfl (by decide +kernel) rfl rfl (Nat.le_of_ble_eq_true rfl) dX2_init_25 (fun H locs hP hD hS => ?_)
  have hP : va_P (dC, dI) vwCl [(h0, .inr (2, [.int 0, .ref q7, .ref q15, .ref q23, .null, .int 0, .null, .null, .null, .null, .null, .int 0, .null, .null])), (q7, .inl (k7, 40, .inl (fun _ => 0))), (q15, .inl (k15, 40, .inl (fun _ => 0))), (q23, .inl (k23, 40, .inl (fun _ => 0)))] H := hP
  have hD : va_D A [(h0, .inr (2, [.int 0, .ref q7, .ref q15, .ref q23, .null, .int 0, .null, .null, .null, .null, .null, .int 0, .null, .null])), (q7, .inl (k7, 40, .inl (fun _ => 0))), (q15, .inl (k15, 40, .inl (fun _ => 0))), (q23, .inl (k23, 40, .inl (fun _ => 0)))] := hD
  refine lv_aload_n hx hb dX2_init_28 rfl (lv_at hl 0 rfl) ?_
  refine lv_bipush (v := 40) hx hb dX2_init_29 (by decide) ?_
  refine va_newa (atype := .int) (ty := .int) (N' := 40) (a0 := (40, .inl (fun _ => 0))) hx hb (hts (.arrayClass .int) (by decide +kernel)) rfl hK hP hD hS hA (fun _ => rfl) (by decide) (by decide) (by decide +kernel) (by decide +kernel) (by decide +kernel) dX2_init_31 (fun q31 k31 H hK hP hD hS => ?_)
  have hP : va_P (dC, dI) vwCl [(h0, .inr (2, [.int 0, .ref q7, .ref q15, .ref q23, .null, .int 0, .null, .null, .null, .null, .null, .int 0, .null, .null])), (q7, .inl (k7, 40, .inl (fun _ => 0))), (q15, .inl (k15, 40, .inl (fun _ => 0))), (q23, .inl (k23, 40, .inl (fun _ => 0))), (q31, .inl (k31, 40, .inl (fun _ => 0)))] H := hP
  have hD : va_D A [(h0, .inr (2, [.int 0, .ref q7, .ref q15, .ref q23, .null, .int 0, .null, .null, .null, .null, .null, .int 0, .null, .null])), (q7, .inl (k7, 40, .inl (fun _ => 0))), (q15, .inl (k15, 40, .inl (fun _ => 0))), (q23, .inl (k23, 40, .inl (fun _ => 0))), (q31, .inl (k31, 40, .inl (fun _ => 0)))] := hD
  have hK : va_K (dC, dI) vwCl [(k7, .int), (k15, .int), (k23, .int), (k31, .int)] s := hK
  refine W.widen (k := 4) (n := 160) (by decide +kernel) (by decide +kernel) ?_
  refine va_putF (D := (dC, dI)) (ci := 2) (v := .ref q31) (ty := .array .int) (C := RX2) (T := TX2) (N := 14) hx hb hts iX2_init_in2 tyX2 tyX2_ok nmX2 hown hK hP hD hS 0 rfl rfl 4 (by decide) (hts (.fieldLink RX2 21 "OptimaWorks$NetDesk" "cost" "[I") (by decide +kernel)) (fun _ h9 => h9) rfl hin rfl (by decide +kernel) rfl rfl (Nat.le_of_ble_eq_true rfl) dX2_init_33 (fun H locs hP hD hS => ?_)
  have hP : va_P (dC, dI) vwCl [(h0, .inr (2, [.int 0, .ref q7, .ref q15, .ref q23, .ref q31, .int 0, .null, .null, .null, .null, .null, .int 0, .null, .null])), (q7, .inl (k7, 40, .inl (fun _ => 0))), (q15, .inl (k15, 40, .inl (fun _ => 0))), (q23, .inl (k23, 40, .inl (fun _ => 0))), (q31, .inl (k31, 40, .inl (fun _ => 0)))] H := hP
  have hD : va_D A [(h0, .inr (2, [.int 0, .ref q7, .ref q15, .ref q23, .ref q31, .int 0, .null, .null, .null, .null, .null, .int 0, .null, .null])), (q7, .inl (k7, 40, .inl (fun _ => 0))), (q15, .inl (k15, 40, .inl (fun _ => 0))), (q23, .inl (k23, 40, .inl (fun _ => 0))), (q31, .inl (k31, 40, .inl (fun _ => 0)))] := hD
  refine lv_aload_n hx hb dX2_init_36 rfl (lv_at hl 0 rfl) ?_
  refine lv_sipush (v := 144) hx hb dX2_init_37 (by decide) ?_
  refine va_newa (atype := .int) (ty := .int) (N' := 144) (a0 := (144, .inl (fun _ => 0))) hx hb (hts (.arrayClass .int) (by decide +kernel)) rfl hK hP hD hS hA (fun _ => rfl) (by decide) (by decide) (by decide +kernel) (by decide +kernel) (by decide +kernel) dX2_init_40 (fun q40 k40 H hK hP hD hS => ?_)
  have hP : va_P (dC, dI) vwCl [(h0, .inr (2, [.int 0, .ref q7, .ref q15, .ref q23, .ref q31, .int 0, .null, .null, .null, .null, .null, .int 0, .null, .null])), (q7, .inl (k7, 40, .inl (fun _ => 0))), (q15, .inl (k15, 40, .inl (fun _ => 0))), (q23, .inl (k23, 40, .inl (fun _ => 0))), (q31, .inl (k31, 40, .inl (fun _ => 0))), (q40, .inl (k40, 144, .inl (fun _ => 0)))] H := hP
  have hD : va_D A [(h0, .inr (2, [.int 0, .ref q7, .ref q15, .ref q23, .ref q31, .int 0, .null, .null, .null, .null, .null, .int 0, .null, .null])), (q7, .inl (k7, 40, .inl (fun _ => 0))), (q15, .inl (k15, 40, .inl (fun _ => 0))), (q23, .inl (k23, 40, .inl (fun _ => 0))), (q31, .inl (k31, 40, .inl (fun _ => 0))), (q40, .inl (k40, 144, .inl (fun _ => 0)))] := hD
  have hK : va_K (dC, dI) vwCl [(k7, .int), (k15, .int), (k23, .int), (k31, .int), (k40, .int)] s := hK
  refine W.widen (k := 5) (n := 304) (by decide +kernel) (by decide +kernel) ?_
  refine va_putF (D := (dC, dI)) (ci := 2) (v := .ref q40) (ty := .array .int) (C := RX2) (T := TX2) (N := 14) hx hb hts iX2_init_in2 tyX2 tyX2_ok nmX2 hown hK hP hD hS 0 rfl rfl 6 (by decide) (hts (.fieldLink RX2 24 "OptimaWorks$NetDesk" "free" "[I") (by decide +kernel)) (fun _ h9 => h9) rfl hin rfl (by decide +kernel) rfl rfl (Nat.le_of_ble_eq_true rfl) dX2_init_42 (fun H locs hP hD hS => ?_)
  have hP : va_P (dC, dI) vwCl [(h0, .inr (2, [.int 0, .ref q7, .ref q15, .ref q23, .ref q31, .int 0, .ref q40, .null, .null, .null, .null, .int 0, .null, .null])), (q7, .inl (k7, 40, .inl (fun _ => 0))), (q15, .inl (k15, 40, .inl (fun _ => 0))), (q23, .inl (k23, 40, .inl (fun _ => 0))), (q31, .inl (k31, 40, .inl (fun _ => 0))), (q40, .inl (k40, 144, .inl (fun _ => 0)))] H := hP
  have hD : va_D A [(h0, .inr (2, [.int 0, .ref q7, .ref q15, .ref q23, .ref q31, .int 0, .ref q40, .null, .null, .null, .null, .int 0, .null, .null])), (q7, .inl (k7, 40, .inl (fun _ => 0))), (q15, .inl (k15, 40, .inl (fun _ => 0))), (q23, .inl (k23, 40, .inl (fun _ => 0))), (q31, .inl (k31, 40, .inl (fun _ => 0))), (q40, .inl (k40, 144, .inl (fun _ => 0)))] := hD
  refine lv_aload_n hx hb dX2_init_45 rfl (lv_at hl 0 rfl) ?_
  refine lv_bipush (v := 12) hx hb dX2_init_46 (by decide) ?_
  refine va_newa (atype := .int) (ty := .int) (N' := 12) (a0 := (12, .inl (fun _ => 0))) hx hb (hts (.arrayClass .int) (by decide +kernel)) rfl hK hP hD hS hA (fun _ => rfl) (by decide) (by decide) (by decide +kernel) (by decide +kernel) (by decide +kernel) dX2_init_48 (fun q48 k48 H hK hP hD hS => ?_)
  have hP : va_P (dC, dI) vwCl [(h0, .inr (2, [.int 0, .ref q7, .ref q15, .ref q23, .ref q31, .int 0, .ref q40, .null, .null, .null, .null, .int 0, .null, .null])), (q7, .inl (k7, 40, .inl (fun _ => 0))), (q15, .inl (k15, 40, .inl (fun _ => 0))), (q23, .inl (k23, 40, .inl (fun _ => 0))), (q31, .inl (k31, 40, .inl (fun _ => 0))), (q40, .inl (k40, 144, .inl (fun _ => 0))), (q48, .inl (k48, 12, .inl (fun _ => 0)))] H := hP
  have hD : va_D A [(h0, .inr (2, [.int 0, .ref q7, .ref q15, .ref q23, .ref q31, .int 0, .ref q40, .null, .null, .null, .null, .int 0, .null, .null])), (q7, .inl (k7, 40, .inl (fun _ => 0))), (q15, .inl (k15, 40, .inl (fun _ => 0))), (q23, .inl (k23, 40, .inl (fun _ => 0))), (q31, .inl (k31, 40, .inl (fun _ => 0))), (q40, .inl (k40, 144, .inl (fun _ => 0))), (q48, .inl (k48, 12, .inl (fun _ => 0)))] := hD
  have hK : va_K (dC, dI) vwCl [(k7, .int), (k15, .int), (k23, .int), (k31, .int), (k40, .int), (k48, .int)] s := hK
  refine W.widen (k := 6) (n := 316) (by decide +kernel) (by decide +kernel) ?_
  refine va_putF (D := (dC, dI)) (ci := 2) (v := .ref q48) (ty := .array .int) (C := RX2) (T := TX2) (N := 14) hx hb hts iX2_init_in2 tyX2 tyX2_ok nmX2 hown hK hP hD hS 0 rfl rfl 7 (by decide) (hts (.fieldLink RX2 27 "OptimaWorks$NetDesk" "before" "[I") (by decide +kernel)) (fun _ h9 => h9) rfl hin rfl (by decide +kernel) rfl rfl (Nat.le_of_ble_eq_true rfl) dX2_init_50 (fun H locs hP hD hS => ?_)
  have hP : va_P (dC, dI) vwCl [(h0, .inr (2, [.int 0, .ref q7, .ref q15, .ref q23, .ref q31, .int 0, .ref q40, .ref q48, .null, .null, .null, .int 0, .null, .null])), (q7, .inl (k7, 40, .inl (fun _ => 0))), (q15, .inl (k15, 40, .inl (fun _ => 0))), (q23, .inl (k23, 40, .inl (fun _ => 0))), (q31, .inl (k31, 40, .inl (fun _ => 0))), (q40, .inl (k40, 144, .inl (fun _ => 0))), (q48, .inl (k48, 12, .inl (fun _ => 0)))] H := hP
  have hD : va_D A [(h0, .inr (2, [.int 0, .ref q7, .ref q15, .ref q23, .ref q31, .int 0, .ref q40, .ref q48, .null, .null, .null, .int 0, .null, .null])), (q7, .inl (k7, 40, .inl (fun _ => 0))), (q15, .inl (k15, 40, .inl (fun _ => 0))), (q23, .inl (k23, 40, .inl (fun _ => 0))), (q31, .inl (k31, 40, .inl (fun _ => 0))), (q40, .inl (k40, 144, .inl (fun _ => 0))), (q48, .inl (k48, 12, .inl (fun _ => 0)))] := hD
  refine lv_aload_n hx hb dX2_init_53 rfl (lv_at hl 0 rfl) ?_
  refine lv_bipush (v := 40) hx hb dX2_init_54 (by decide) ?_
  refine va_newa (atype := .int) (ty := .int) (N' := 40) (a0 := (40, .inl (fun _ => 0))) hx hb (hts (.arrayClass .int) (by decide +kernel)) rfl hK hP hD hS hA (fun _ => rfl) (by decide) (by decide) (by decide +kernel) (by decide +kernel) (by decide +kernel) dX2_init_56 (fun q56 k56 H hK hP hD hS => ?_)
  have hP : va_P (dC, dI) vwCl [(h0, .inr (2, [.int 0, .ref q7, .ref q15, .ref q23, .ref q31, .int 0, .ref q40, .ref q48, .null, .null, .null, .int 0, .null, .null])), (q7, .inl (k7, 40, .inl (fun _ => 0))), (q15, .inl (k15, 40, .inl (fun _ => 0))), (q23, .inl (k23, 40, .inl (fun _ => 0))), (q31, .inl (k31, 40, .inl (fun _ => 0))), (q40, .inl (k40, 144, .inl (fun _ => 0))), (q48, .inl (k48, 12, .inl (fun _ => 0))), (q56, .inl (k56, 40, .inl (fun _ => 0)))] H := hP
  have hD : va_D A [(h0, .inr (2, [.int 0, .ref q7, .ref q15, .ref q23, .ref q31, .int 0, .ref q40, .ref q48, .null, .null, .null, .int 0, .null, .null])), (q7, .inl (k7, 40, .inl (fun _ => 0))), (q15, .inl (k15, 40, .inl (fun _ => 0))), (q23, .inl (k23, 40, .inl (fun _ => 0))), (q31, .inl (k31, 40, .inl (fun _ => 0))), (q40, .inl (k40, 144, .inl (fun _ => 0))), (q48, .inl (k48, 12, .inl (fun _ => 0))), (q56, .inl (k56, 40, .inl (fun _ => 0)))] := hD
  have hK : va_K (dC, dI) vwCl [(k7, .int), (k15, .int), (k23, .int), (k31, .int), (k40, .int), (k48, .int), (k56, .int)] s := hK
  refine W.widen (k := 7) (n := 356) (by decide +kernel) (by decide +kernel) ?_
  refine va_putF (D := (dC, dI)) (ci := 2) (v := .ref q56) (ty := .array .int) (C := RX2) (T := TX2) (N := 14) hx hb hts iX2_init_in2 tyX2 tyX2_ok nmX2 hown hK hP hD hS 0 rfl rfl 8 (by decide) (hts (.fieldLink RX2 30 "OptimaWorks$NetDesk" "flow" "[I") (by decide +kernel)) (fun _ h9 => h9) rfl hin rfl (by decide +kernel) rfl rfl (Nat.le_of_ble_eq_true rfl) dX2_init_58 (fun H locs hP hD hS => ?_)
  have hP : va_P (dC, dI) vwCl [(h0, .inr (2, [.int 0, .ref q7, .ref q15, .ref q23, .ref q31, .int 0, .ref q40, .ref q48, .ref q56, .null, .null, .int 0, .null, .null])), (q7, .inl (k7, 40, .inl (fun _ => 0))), (q15, .inl (k15, 40, .inl (fun _ => 0))), (q23, .inl (k23, 40, .inl (fun _ => 0))), (q31, .inl (k31, 40, .inl (fun _ => 0))), (q40, .inl (k40, 144, .inl (fun _ => 0))), (q48, .inl (k48, 12, .inl (fun _ => 0))), (q56, .inl (k56, 40, .inl (fun _ => 0)))] H := hP
  have hD : va_D A [(h0, .inr (2, [.int 0, .ref q7, .ref q15, .ref q23, .ref q31, .int 0, .ref q40, .ref q48, .ref q56, .null, .null, .int 0, .null, .null])), (q7, .inl (k7, 40, .inl (fun _ => 0))), (q15, .inl (k15, 40, .inl (fun _ => 0))), (q23, .inl (k23, 40, .inl (fun _ => 0))), (q31, .inl (k31, 40, .inl (fun _ => 0))), (q40, .inl (k40, 144, .inl (fun _ => 0))), (q48, .inl (k48, 12, .inl (fun _ => 0))), (q56, .inl (k56, 40, .inl (fun _ => 0)))] := hD
  refine lv_aload_n hx hb dX2_init_61 rfl (lv_at hl 0 rfl) ?_
  refine lv_bipush (v := 12) hx hb dX2_init_62 (by decide) ?_
  refine va_newa (atype := .int) (ty := .int) (N' := 12) (a0 := (12, .inl (fun _ => 0))) hx hb (hts (.arrayClass .int) (by decide +kernel)) rfl hK hP hD hS hA (fun _ => rfl) (by decide) (by decide) (by decide +kernel) (by decide +kernel) (by decide +kernel) dX2_init_64 (fun q64 k64 H hK hP hD hS => ?_)
  have hP : va_P (dC, dI) vwCl [(h0, .inr (2, [.int 0, .ref q7, .ref q15, .ref q23, .ref q31, .int 0, .ref q40, .ref q48, .ref q56, .null, .null, .int 0, .null, .null])), (q7, .inl (k7, 40, .inl (fun _ => 0))), (q15, .inl (k15, 40, .inl (fun _ => 0))), (q23, .inl (k23, 40, .inl (fun _ => 0))), (q31, .inl (k31, 40, .inl (fun _ => 0))), (q40, .inl (k40, 144, .inl (fun _ => 0))), (q48, .inl (k48, 12, .inl (fun _ => 0))), (q56, .inl (k56, 40, .inl (fun _ => 0))), (q64, .inl (k64, 12, .inl (fun _ => 0)))] H := hP
  have hD : va_D A [(h0, .inr (2, [.int 0, .ref q7, .ref q15, .ref q23, .ref q31, .int 0, .ref q40, .ref q48, .ref q56, .null, .null, .int 0, .null, .null])), (q7, .inl (k7, 40, .inl (fun _ => 0))), (q15, .inl (k15, 40, .inl (fun _ => 0))), (q23, .inl (k23, 40, .inl (fun _ => 0))), (q31, .inl (k31, 40, .inl (fun _ => 0))), (q40, .inl (k40, 144, .inl (fun _ => 0))), (q48, .inl (k48, 12, .inl (fun _ => 0))), (q56, .inl (k56, 40, .inl (fun _ => 0))), (q64, .inl (k64, 12, .inl (fun _ => 0)))] := hD
  have hK : va_K (dC, dI) vwCl [(k7, .int), (k15, .int), (k23, .int), (k31, .int), (k40, .int), (k48, .int), (k56, .int), (k64, .int)] s := hK
  refine W.widen (k := 8) (n := 368) (by decide +kernel) (by decide +kernel) ?_
  refine va_putF (D := (dC, dI)) (ci := 2) (v := .ref q64) (ty := .array .int) (C := RX2) (T := TX2) (N := 14) hx hb hts iX2_init_in2 tyX2 tyX2_ok nmX2 hown hK hP hD hS 0 rfl rfl 9 (by decide) (hts (.fieldLink RX2 33 "OptimaWorks$NetDesk" "length" "[I") (by decide +kernel)) (fun _ h9 => h9) rfl hin rfl (by decide +kernel) rfl rfl (Nat.le_of_ble_eq_true rfl) dX2_init_66 (fun H locs hP hD hS => ?_)
  have hP : va_P (dC, dI) vwCl [(h0, .inr (2, [.int 0, .ref q7, .ref q15, .ref q23, .ref q31, .int 0, .ref q40, .ref q48, .ref q56, .ref q64, .null, .int 0, .null, .null])), (q7, .inl (k7, 40, .inl (fun _ => 0))), (q15, .inl (k15, 40, .inl (fun _ => 0))), (q23, .inl (k23, 40, .inl (fun _ => 0))), (q31, .inl (k31, 40, .inl (fun _ => 0))), (q40, .inl (k40, 144, .inl (fun _ => 0))), (q48, .inl (k48, 12, .inl (fun _ => 0))), (q56, .inl (k56, 40, .inl (fun _ => 0))), (q64, .inl (k64, 12, .inl (fun _ => 0)))] H := hP
  have hD : va_D A [(h0, .inr (2, [.int 0, .ref q7, .ref q15, .ref q23, .ref q31, .int 0, .ref q40, .ref q48, .ref q56, .ref q64, .null, .int 0, .null, .null])), (q7, .inl (k7, 40, .inl (fun _ => 0))), (q15, .inl (k15, 40, .inl (fun _ => 0))), (q23, .inl (k23, 40, .inl (fun _ => 0))), (q31, .inl (k31, 40, .inl (fun _ => 0))), (q40, .inl (k40, 144, .inl (fun _ => 0))), (q48, .inl (k48, 12, .inl (fun _ => 0))), (q56, .inl (k56, 40, .inl (fun _ => 0))), (q64, .inl (k64, 12, .inl (fun _ => 0)))] := hD
  refine lv_aload_n hx hb dX2_init_69 rfl (lv_at hl 0 rfl) ?_
  refine lv_bipush (v := 8) hx hb dX2_init_70 (by decide) ?_
  refine va_newa (atype := .int) (ty := .int) (N' := 8) (a0 := (8, .inl (fun _ => 0))) hx hb (hts (.arrayClass .int) (by decide +kernel)) rfl hK hP hD hS hA (fun _ => rfl) (by decide) (by decide) (by decide +kernel) (by decide +kernel) (by decide +kernel) dX2_init_72 (fun q72 k72 H hK hP hD hS => ?_)
  have hP : va_P (dC, dI) vwCl [(h0, .inr (2, [.int 0, .ref q7, .ref q15, .ref q23, .ref q31, .int 0, .ref q40, .ref q48, .ref q56, .ref q64, .null, .int 0, .null, .null])), (q7, .inl (k7, 40, .inl (fun _ => 0))), (q15, .inl (k15, 40, .inl (fun _ => 0))), (q23, .inl (k23, 40, .inl (fun _ => 0))), (q31, .inl (k31, 40, .inl (fun _ => 0))), (q40, .inl (k40, 144, .inl (fun _ => 0))), (q48, .inl (k48, 12, .inl (fun _ => 0))), (q56, .inl (k56, 40, .inl (fun _ => 0))), (q64, .inl (k64, 12, .inl (fun _ => 0))), (q72, .inl (k72, 8, .inl (fun _ => 0)))] H := hP
  have hD : va_D A [(h0, .inr (2, [.int 0, .ref q7, .ref q15, .ref q23, .ref q31, .int 0, .ref q40, .ref q48, .ref q56, .ref q64, .null, .int 0, .null, .null])), (q7, .inl (k7, 40, .inl (fun _ => 0))), (q15, .inl (k15, 40, .inl (fun _ => 0))), (q23, .inl (k23, 40, .inl (fun _ => 0))), (q31, .inl (k31, 40, .inl (fun _ => 0))), (q40, .inl (k40, 144, .inl (fun _ => 0))), (q48, .inl (k48, 12, .inl (fun _ => 0))), (q56, .inl (k56, 40, .inl (fun _ => 0))), (q64, .inl (k64, 12, .inl (fun _ => 0))), (q72, .inl (k72, 8, .inl (fun _ => 0)))] := hD
  have hK : va_K (dC, dI) vwCl [(k7, .int), (k15, .int), (k23, .int), (k31, .int), (k40, .int), (k48, .int), (k56, .int), (k64, .int), (k72, .int)] s := hK
  refine W.widen (k := 9) (n := 376) (by decide +kernel) (by decide +kernel) ?_
  refine va_putF (D := (dC, dI)) (ci := 2) (v := .ref q72) (ty := .array .int) (C := RX2) (T := TX2) (N := 14) hx hb hts iX2_init_in2 tyX2 tyX2_ok nmX2 hown hK hP hD hS 0 rfl rfl 10 (by decide) (hts (.fieldLink RX2 36 "OptimaWorks$NetDesk" "stop" "[I") (by decide +kernel)) (fun _ h9 => h9) rfl hin rfl (by decide +kernel) rfl rfl (Nat.le_of_ble_eq_true rfl) dX2_init_74 (fun H locs hP hD hS => ?_)
  have hP : va_P (dC, dI) vwCl [(h0, .inr (2, [.int 0, .ref q7, .ref q15, .ref q23, .ref q31, .int 0, .ref q40, .ref q48, .ref q56, .ref q64, .ref q72, .int 0, .null, .null])), (q7, .inl (k7, 40, .inl (fun _ => 0))), (q15, .inl (k15, 40, .inl (fun _ => 0))), (q23, .inl (k23, 40, .inl (fun _ => 0))), (q31, .inl (k31, 40, .inl (fun _ => 0))), (q40, .inl (k40, 144, .inl (fun _ => 0))), (q48, .inl (k48, 12, .inl (fun _ => 0))), (q56, .inl (k56, 40, .inl (fun _ => 0))), (q64, .inl (k64, 12, .inl (fun _ => 0))), (q72, .inl (k72, 8, .inl (fun _ => 0)))] H := hP
  have hD : va_D A [(h0, .inr (2, [.int 0, .ref q7, .ref q15, .ref q23, .ref q31, .int 0, .ref q40, .ref q48, .ref q56, .ref q64, .ref q72, .int 0, .null, .null])), (q7, .inl (k7, 40, .inl (fun _ => 0))), (q15, .inl (k15, 40, .inl (fun _ => 0))), (q23, .inl (k23, 40, .inl (fun _ => 0))), (q31, .inl (k31, 40, .inl (fun _ => 0))), (q40, .inl (k40, 144, .inl (fun _ => 0))), (q48, .inl (k48, 12, .inl (fun _ => 0))), (q56, .inl (k56, 40, .inl (fun _ => 0))), (q64, .inl (k64, 12, .inl (fun _ => 0))), (q72, .inl (k72, 8, .inl (fun _ => 0)))] := hD
  refine lv_aload_n hx hb dX2_init_77 rfl (lv_at hl 0 rfl) ?_
  refine lv_bipush (v := 64) hx hb dX2_init_78 (by decide) ?_
  refine va_newa (atype := .int) (ty := .int) (N' := 64) (a0 := (64, .inl (fun _ => 0))) hx hb (hts (.arrayClass .int) (by decide +kernel)) rfl hK hP hD hS hA (fun _ => rfl) (by decide) (by decide) (by decide +kernel) (by decide +kernel) (by decide +kernel) dX2_init_80 (fun q80 k80 H hK hP hD hS => ?_)
  have hP : va_P (dC, dI) vwCl [(h0, .inr (2, [.int 0, .ref q7, .ref q15, .ref q23, .ref q31, .int 0, .ref q40, .ref q48, .ref q56, .ref q64, .ref q72, .int 0, .null, .null])), (q7, .inl (k7, 40, .inl (fun _ => 0))), (q15, .inl (k15, 40, .inl (fun _ => 0))), (q23, .inl (k23, 40, .inl (fun _ => 0))), (q31, .inl (k31, 40, .inl (fun _ => 0))), (q40, .inl (k40, 144, .inl (fun _ => 0))), (q48, .inl (k48, 12, .inl (fun _ => 0))), (q56, .inl (k56, 40, .inl (fun _ => 0))), (q64, .inl (k64, 12, .inl (fun _ => 0))), (q72, .inl (k72, 8, .inl (fun _ => 0))), (q80, .inl (k80, 64, .inl (fun _ => 0)))] H := hP
  have hD : va_D A [(h0, .inr (2, [.int 0, .ref q7, .ref q15, .ref q23, .ref q31, .int 0, .ref q40, .ref q48, .ref q56, .ref q64, .ref q72, .int 0, .null, .null])), (q7, .inl (k7, 40, .inl (fun _ => 0))), (q15, .inl (k15, 40, .inl (fun _ => 0))), (q23, .inl (k23, 40, .inl (fun _ => 0))), (q31, .inl (k31, 40, .inl (fun _ => 0))), (q40, .inl (k40, 144, .inl (fun _ => 0))), (q48, .inl (k48, 12, .inl (fun _ => 0))), (q56, .inl (k56, 40, .inl (fun _ => 0))), (q64, .inl (k64, 12, .inl (fun _ => 0))), (q72, .inl (k72, 8, .inl (fun _ => 0))), (q80, .inl (k80, 64, .inl (fun _ => 0)))] := hD
  have hK : va_K (dC, dI) vwCl [(k7, .int), (k15, .int), (k23, .int), (k31, .int), (k40, .int), (k48, .int), (k56, .int), (k64, .int), (k72, .int), (k80, .int)] s := hK
  refine W.widen (k := 10) (n := 440) (by decide +kernel) (by decide +kernel) ?_
  refine va_putF (D := (dC, dI)) (ci := 2) (v := .ref q80) (ty := .array .int) (C := RX2) (T := TX2) (N := 14) hx hb hts iX2_init_in2 tyX2 tyX2_ok nmX2 hown hK hP hD hS 0 rfl rfl 12 (by decide) (hts (.fieldLink RX2 39 "OptimaWorks$NetDesk" "price" "[I") (by decide +kernel)) (fun _ h9 => h9) rfl hin rfl (by decide +kernel) rfl rfl (Nat.le_of_ble_eq_true rfl) dX2_init_82 (fun H locs hP hD hS => ?_)
  have hP : va_P (dC, dI) vwCl [(h0, .inr (2, [.int 0, .ref q7, .ref q15, .ref q23, .ref q31, .int 0, .ref q40, .ref q48, .ref q56, .ref q64, .ref q72, .int 0, .ref q80, .null])), (q7, .inl (k7, 40, .inl (fun _ => 0))), (q15, .inl (k15, 40, .inl (fun _ => 0))), (q23, .inl (k23, 40, .inl (fun _ => 0))), (q31, .inl (k31, 40, .inl (fun _ => 0))), (q40, .inl (k40, 144, .inl (fun _ => 0))), (q48, .inl (k48, 12, .inl (fun _ => 0))), (q56, .inl (k56, 40, .inl (fun _ => 0))), (q64, .inl (k64, 12, .inl (fun _ => 0))), (q72, .inl (k72, 8, .inl (fun _ => 0))), (q80, .inl (k80, 64, .inl (fun _ => 0)))] H := hP
  have hD : va_D A [(h0, .inr (2, [.int 0, .ref q7, .ref q15, .ref q23, .ref q31, .int 0, .ref q40, .ref q48, .ref q56, .ref q64, .ref q72, .int 0, .ref q80, .null])), (q7, .inl (k7, 40, .inl (fun _ => 0))), (q15, .inl (k15, 40, .inl (fun _ => 0))), (q23, .inl (k23, 40, .inl (fun _ => 0))), (q31, .inl (k31, 40, .inl (fun _ => 0))), (q40, .inl (k40, 144, .inl (fun _ => 0))), (q48, .inl (k48, 12, .inl (fun _ => 0))), (q56, .inl (k56, 40, .inl (fun _ => 0))), (q64, .inl (k64, 12, .inl (fun _ => 0))), (q72, .inl (k72, 8, .inl (fun _ => 0))), (q80, .inl (k80, 64, .inl (fun _ => 0)))] := hD
  refine lv_aload_n hx hb dX2_init_85 rfl (lv_at hl 0 rfl) ?_
  refine lv_sipush (v := 1024) hx hb dX2_init_86 (by decide) ?_
  refine va_newa (atype := .int) (ty := .int) (N' := 1024) (a0 := (1024, .inl (fun _ => 0))) hx hb (hts (.arrayClass .int) (by decide +kernel)) rfl hK hP hD hS hA (fun _ => rfl) (by decide) (by decide) (by decide +kernel) (by decide +kernel) (by decide +kernel) dX2_init_89 (fun q89 k89 H hK hP hD hS => ?_)
  have hP : va_P (dC, dI) vwCl [(h0, .inr (2, [.int 0, .ref q7, .ref q15, .ref q23, .ref q31, .int 0, .ref q40, .ref q48, .ref q56, .ref q64, .ref q72, .int 0, .ref q80, .null])), (q7, .inl (k7, 40, .inl (fun _ => 0))), (q15, .inl (k15, 40, .inl (fun _ => 0))), (q23, .inl (k23, 40, .inl (fun _ => 0))), (q31, .inl (k31, 40, .inl (fun _ => 0))), (q40, .inl (k40, 144, .inl (fun _ => 0))), (q48, .inl (k48, 12, .inl (fun _ => 0))), (q56, .inl (k56, 40, .inl (fun _ => 0))), (q64, .inl (k64, 12, .inl (fun _ => 0))), (q72, .inl (k72, 8, .inl (fun _ => 0))), (q80, .inl (k80, 64, .inl (fun _ => 0))), (q89, .inl (k89, 1024, .inl (fun _ => 0)))] H := hP
  have hD : va_D A [(h0, .inr (2, [.int 0, .ref q7, .ref q15, .ref q23, .ref q31, .int 0, .ref q40, .ref q48, .ref q56, .ref q64, .ref q72, .int 0, .ref q80, .null])), (q7, .inl (k7, 40, .inl (fun _ => 0))), (q15, .inl (k15, 40, .inl (fun _ => 0))), (q23, .inl (k23, 40, .inl (fun _ => 0))), (q31, .inl (k31, 40, .inl (fun _ => 0))), (q40, .inl (k40, 144, .inl (fun _ => 0))), (q48, .inl (k48, 12, .inl (fun _ => 0))), (q56, .inl (k56, 40, .inl (fun _ => 0))), (q64, .inl (k64, 12, .inl (fun _ => 0))), (q72, .inl (k72, 8, .inl (fun _ => 0))), (q80, .inl (k80, 64, .inl (fun _ => 0))), (q89, .inl (k89, 1024, .inl (fun _ => 0)))] := hD
  have hK : va_K (dC, dI) vwCl [(k7, .int), (k15, .int), (k23, .int), (k31, .int), (k40, .int), (k48, .int), (k56, .int), (k64, .int), (k72, .int), (k80, .int), (k89, .int)] s := hK
  refine W.widen (k := 11) (n := 1464) (by decide +kernel) (by decide +kernel) ?_
  refine va_putF (D := (dC, dI)) (ci := 2) (v := .ref q89) (ty := .array .int) (C := RX2) (T := TX2) (N := 14) hx hb hts iX2_init_in2 tyX2 tyX2_ok nmX2 hown hK hP hD hS 0 rfl rfl 13 (by decide) (hts (.fieldLink RX2 42 "OptimaWorks$NetDesk" "rest" "[I") (by decide +kernel)) (fun _ h9 => h9) rfl hin rfl (by decide +kernel) rfl rfl (Nat.le_of_ble_eq_true rfl) dX2_init_91 (fun H locs hP hD hS => ?_)
  have hP : va_P (dC, dI) vwCl [(h0, .inr (2, [.int 0, .ref q7, .ref q15, .ref q23, .ref q31, .int 0, .ref q40, .ref q48, .ref q56, .ref q64, .ref q72, .int 0, .ref q80, .ref q89])), (q7, .inl (k7, 40, .inl (fun _ => 0))), (q15, .inl (k15, 40, .inl (fun _ => 0))), (q23, .inl (k23, 40, .inl (fun _ => 0))), (q31, .inl (k31, 40, .inl (fun _ => 0))), (q40, .inl (k40, 144, .inl (fun _ => 0))), (q48, .inl (k48, 12, .inl (fun _ => 0))), (q56, .inl (k56, 40, .inl (fun _ => 0))), (q64, .inl (k64, 12, .inl (fun _ => 0))), (q72, .inl (k72, 8, .inl (fun _ => 0))), (q80, .inl (k80, 64, .inl (fun _ => 0))), (q89, .inl (k89, 1024, .inl (fun _ => 0)))] H := hP
  have hD : va_D A [(h0, .inr (2, [.int 0, .ref q7, .ref q15, .ref q23, .ref q31, .int 0, .ref q40, .ref q48, .ref q56, .ref q64, .ref q72, .int 0, .ref q80, .ref q89])), (q7, .inl (k7, 40, .inl (fun _ => 0))), (q15, .inl (k15, 40, .inl (fun _ => 0))), (q23, .inl (k23, 40, .inl (fun _ => 0))), (q31, .inl (k31, 40, .inl (fun _ => 0))), (q40, .inl (k40, 144, .inl (fun _ => 0))), (q48, .inl (k48, 12, .inl (fun _ => 0))), (q56, .inl (k56, 40, .inl (fun _ => 0))), (q64, .inl (k64, 12, .inl (fun _ => 0))), (q72, .inl (k72, 8, .inl (fun _ => 0))), (q80, .inl (k80, 64, .inl (fun _ => 0))), (q89, .inl (k89, 1024, .inl (fun _ => 0)))] := hD
  refine W.widen (k := 11) (n := 1464) (by decide +kernel) (by decide +kernel) ?_
  exact W.vret hx hb hr (fun t ht hW => ⟨⟨((fun n => [q7, q15, q23, q31, q40, q48, q56, q64, q72, q80, q89].getD n 0), (fun n => [k7, k15, k23, k31, k40, k48, k56, k64, k72, k80, k89].getD n k7)), rfl, trivial, by rw [ht]; exact hP, va_K.moved hW.alike hK, hD⟩, hS.F ht⟩) hS.2.2 dX2_init_94
def wsX7_init : List Cond := .code yX7_init cX7_init 1 none :: ([.methodLink RX7 5 objectInit, .instanceMethod objectInit, .code objectInit ⟨#[0xb1]⟩ 1 none, .arrayClass .int, .fieldLink RX7 11 "OptimaWorks$ValueDesk" "pairs" "[I", .fieldLink RX7 15 "OptimaWorks$ValueDesk" "domain" "[I", .fieldLink RX7 18 "OptimaWorks$ValueDesk" "kind" "[I", .fieldLink RX7 21 "OptimaWorks$ValueDesk" "a" "[I", .fieldLink RX7 24 "OptimaWorks$ValueDesk" "b" "[I", .fieldLink RX7 27 "OptimaWorks$ValueDesk" "c" "[I", .fieldLink RX7 30 "OptimaWorks$ValueDesk" "rulePairs" "[I", .fieldLink RX7 33 "OptimaWorks$ValueDesk" "lastHolder" "[I", .fieldLink RX7 36 "OptimaWorks$ValueDesk" "now" "[I", .fieldLink RX7 39 "OptimaWorks$ValueDesk" "doneFor" "I", .arrayClass .long, .fieldLink RX7 43 "OptimaWorks$ValueDesk" "fore" "[J", .fieldLink RX7 47 "OptimaWorks$ValueDesk" "back" "[J", .fieldLink RX7 50 "OptimaWorks$ValueDesk" "together" "[I", .fieldLink RX7 53 "OptimaWorks$ValueDesk" "member" "[I", .fieldLink RX7 56 "OptimaWorks$ValueDesk" "list" "[J"] ++ wsX70)
def wX7 (a : Nat → Nat) (k : Nat → ClassId) (h0 : Nat) : va_W := [(h0, .inr (7, [.int 0, .int 0, .ref (a 0), .ref (a 1), .ref (a 2), .ref (a 3), .ref (a 4), .ref (a 5), .ref (a 6), .ref (a 7), .ref (a 8), .int (-1), .int 0, .ref (a 9), .ref (a 10), .ref (a 11), .ref (a 12), .ref (a 13), .int 0, .int 0])), ((a 0), .inl ((k 0), 16, .inl (fun _ => 0))), ((a 1), .inl ((k 1), 10, .inl (fun _ => 0))), ((a 2), .inl ((k 2), 12, .inl (fun _ => 0))), ((a 3), .inl ((k 3), 12, .inl (fun _ => 0))), ((a 4), .inl ((k 4), 12, .inl (fun _ => 0))), ((a 5), .inl ((k 5), 12, .inl (fun _ => 0))), ((a 6), .inl ((k 6), 192, .inl (fun _ => 0))), ((a 7), .inl ((k 7), 12, .inl (fun _ => 0))), ((a 8), .inl ((k 8), 10, .inl (fun _ => 0))), ((a 9), .inl ((k 9), 33, .inr (.inl (fun _ => 0)))), ((a 10), .inl ((k 10), 33, .inr (.inl (fun _ => 0)))), ((a 11), .inl ((k 11), 1024, .inl (fun _ => 0))), ((a 12), .inl ((k 12), 10, .inl (fun _ => 0))), ((a 13), .inl ((k 13), 0, .inr (.inl (fun _ => 0))))]
def tX7 (k : Nat → ClassId) : List (ClassId × FieldType) := [((k 0), .int), ((k 1), .int), ((k 2), .int), ((k 3), .int), ((k 4), .int), ((k 5), .int), ((k 6), .int), ((k 7), .int), ((k 8), .int), ((k 9), .long), ((k 10), .long), ((k 11), .int), ((k 12), .int), ((k 13), .long)]
theorem dX7_init_0 : decode cX7_init 0 = .ok (.aload_n 0, 1) := by decide +kernel
theorem dX7_init_1 : decode cX7_init 1 = .ok (.invokespecial 5, 3) := by decide +kernel
theorem dX7_init_4 : decode cX7_init 4 = .ok (.aload_n 0, 1) := by decide +kernel
theorem dX7_init_5 : decode cX7_init 5 = .ok (.bipush 16, 2) := by decide +kernel
theorem dX7_init_7 : decode cX7_init 7 = .ok (.newarray .int, 2) := by decide +kernel
theorem dX7_init_9 : decode cX7_init 9 = .ok (.putfield 11, 3) := by decide +kernel
theorem dX7_init_12 : decode cX7_init 12 = .ok (.aload_n 0, 1) := by decide +kernel
theorem dX7_init_13 : decode cX7_init 13 = .ok (.bipush 10, 2) := by decide +kernel
theorem dX7_init_15 : decode cX7_init 15 = .ok (.newarray .int, 2) := by decide +kernel
theorem dX7_init_17 : decode cX7_init 17 = .ok (.putfield 15, 3) := by decide +kernel
theorem dX7_init_20 : decode cX7_init 20 = .ok (.aload_n 0, 1) := by decide +kernel
theorem dX7_init_21 : decode cX7_init 21 = .ok (.bipush 12, 2) := by decide +kernel
theorem dX7_init_23 : decode cX7_init 23 = .ok (.newarray .int, 2) := by decide +kernel
theorem dX7_init_25 : decode cX7_init 25 = .ok (.putfield 18, 3) := by decide +kernel
theorem dX7_init_28 : decode cX7_init 28 = .ok (.aload_n 0, 1) := by decide +kernel
theorem dX7_init_29 : decode cX7_init 29 = .ok (.bipush 12, 2) := by decide +kernel
theorem dX7_init_31 : decode cX7_init 31 = .ok (.newarray .int, 2) := by decide +kernel
theorem dX7_init_33 : decode cX7_init 33 = .ok (.putfield 21, 3) := by decide +kernel
theorem dX7_init_36 : decode cX7_init 36 = .ok (.aload_n 0, 1) := by decide +kernel
theorem dX7_init_37 : decode cX7_init 37 = .ok (.bipush 12, 2) := by decide +kernel
theorem dX7_init_39 : decode cX7_init 39 = .ok (.newarray .int, 2) := by decide +kernel
theorem dX7_init_41 : decode cX7_init 41 = .ok (.putfield 24, 3) := by decide +kernel
theorem dX7_init_44 : decode cX7_init 44 = .ok (.aload_n 0, 1) := by decide +kernel
theorem dX7_init_45 : decode cX7_init 45 = .ok (.bipush 12, 2) := by decide +kernel
theorem dX7_init_47 : decode cX7_init 47 = .ok (.newarray .int, 2) := by decide +kernel
theorem dX7_init_49 : decode cX7_init 49 = .ok (.putfield 27, 3) := by decide +kernel
theorem dX7_init_52 : decode cX7_init 52 = .ok (.aload_n 0, 1) := by decide +kernel
theorem dX7_init_53 : decode cX7_init 53 = .ok (.sipush 192, 3) := by decide +kernel
theorem dX7_init_56 : decode cX7_init 56 = .ok (.newarray .int, 2) := by decide +kernel
theorem dX7_init_58 : decode cX7_init 58 = .ok (.putfield 30, 3) := by decide +kernel
theorem dX7_init_61 : decode cX7_init 61 = .ok (.aload_n 0, 1) := by decide +kernel
theorem dX7_init_62 : decode cX7_init 62 = .ok (.bipush 12, 2) := by decide +kernel
theorem dX7_init_64 : decode cX7_init 64 = .ok (.newarray .int, 2) := by decide +kernel
theorem dX7_init_66 : decode cX7_init 66 = .ok (.putfield 33, 3) := by decide +kernel
theorem dX7_init_69 : decode cX7_init 69 = .ok (.aload_n 0, 1) := by decide +kernel
theorem dX7_init_70 : decode cX7_init 70 = .ok (.bipush 10, 2) := by decide +kernel
theorem dX7_init_72 : decode cX7_init 72 = .ok (.newarray .int, 2) := by decide +kernel
theorem dX7_init_74 : decode cX7_init 74 = .ok (.putfield 36, 3) := by decide +kernel
theorem dX7_init_77 : decode cX7_init 77 = .ok (.aload_n 0, 1) := by decide +kernel
theorem dX7_init_78 : decode cX7_init 78 = .ok (.iconst (-1), 1) := by decide +kernel
theorem dX7_init_79 : decode cX7_init 79 = .ok (.putfield 39, 3) := by decide +kernel
theorem dX7_init_82 : decode cX7_init 82 = .ok (.aload_n 0, 1) := by decide +kernel
theorem dX7_init_83 : decode cX7_init 83 = .ok (.bipush 33, 2) := by decide +kernel
theorem dX7_init_85 : decode cX7_init 85 = .ok (.newarray .long, 2) := by decide +kernel
theorem dX7_init_87 : decode cX7_init 87 = .ok (.putfield 43, 3) := by decide +kernel
theorem dX7_init_90 : decode cX7_init 90 = .ok (.aload_n 0, 1) := by decide +kernel
theorem dX7_init_91 : decode cX7_init 91 = .ok (.bipush 33, 2) := by decide +kernel
theorem dX7_init_93 : decode cX7_init 93 = .ok (.newarray .long, 2) := by decide +kernel
theorem dX7_init_95 : decode cX7_init 95 = .ok (.putfield 47, 3) := by decide +kernel
theorem dX7_init_98 : decode cX7_init 98 = .ok (.aload_n 0, 1) := by decide +kernel
theorem dX7_init_99 : decode cX7_init 99 = .ok (.sipush 1024, 3) := by decide +kernel
theorem dX7_init_102 : decode cX7_init 102 = .ok (.newarray .int, 2) := by decide +kernel
theorem dX7_init_104 : decode cX7_init 104 = .ok (.putfield 50, 3) := by decide +kernel
theorem dX7_init_107 : decode cX7_init 107 = .ok (.aload_n 0, 1) := by decide +kernel
theorem dX7_init_108 : decode cX7_init 108 = .ok (.bipush 10, 2) := by decide +kernel
theorem dX7_init_110 : decode cX7_init 110 = .ok (.newarray .int, 2) := by decide +kernel
theorem dX7_init_112 : decode cX7_init 112 = .ok (.putfield 53, 3) := by decide +kernel
theorem dX7_init_115 : decode cX7_init 115 = .ok (.aload_n 0, 1) := by decide +kernel
theorem dX7_init_116 : decode cX7_init 116 = .ok (.iconst 0, 1) := by decide +kernel
theorem dX7_init_117 : decode cX7_init 117 = .ok (.newarray .long, 2) := by decide +kernel
theorem dX7_init_119 : decode cX7_init 119 = .ok (.putfield 56, 3) := by decide +kernel
theorem dX7_init_122 : decode cX7_init 122 = .ok (.return_, 1) := by decide +kernel
theorem iX7_init_in7 : ∀ w ∈ wsX70, w ∈ wsX7_init := fun _ h => List.mem_cons_of_mem _ (List.mem_append_right _ h)
set_option maxHeartbeats 4000000 in
set_option maxRecDepth 100000 in
/-- ValueDesk(): its rows come -/
theorem c_X7_init (l : Launch) (dC : Nat → ClassId) (dI : Nat → Nat → Nat) (h0 : Nat) (sz : Nat) : Met l yX7_init wsX7_init ({ frames := 1, cells := 14, slots := 1388, locals := 12 }) (va_Pc [.ref h0] (fun U => U.heap.size = sz ∧ va_P (dC, dI) vwCl [(h0, .inr (7, [.int 0, .int 0, .null, .null, .null, .null, .null, .null, .null, .null, .null, .int 0, .int 0, .null, .null, .null, .null, .null, .int 0, .int 0]))] U.heap ∧ va_K (dC, dI) vwCl [] U ∧ va_D (fun _ => True) [(h0, .inr (7, [.int 0, .int 0, .null, .null, .null, .null, .null, .null, .null, .null, .null, .int 0, .int 0, .null, .null, .null, .null, .null, .int 0, .int 0]))])) (va_Qv (fun _ : (Nat → Nat) × (Nat → ClassId) => True) (fun u t => va_P (dC, dI) vwCl (wX7 u.1 u.2 h0) t.heap ∧ va_K (dC, dI) vwCl (tX7 u.2) t ∧ va_D (va_A [(h0, .inr (7, [.int 0, .int 0, .null, .null, .null, .null, .null, .null, .null, .null, .null, .int 0, .int 0, .null, .null, .null, .null, .null, .int 0, .int 0]))] sz) (wX7 u.1 u.2 h0)) (va_A [(h0, .inr (7, [.int 0, .int 0, .null, .null, .null, .null, .null, .null, .null, .null, .null, .int 0, .int 0, .null, .null, .null, .null, .null, .int 0, .int 0]))] sz)) 14 1388 (va_A [(h0, .inr (7, [.int 0, .int 0, .null, .null, .null, .null, .null, .null, .null, .null, .null, .int 0, .int 0, .null, .null, .null, .null, .null, .int 0, .int 0]))] sz) := by
  refine Met.ofW (cc := cX7_init) (maxL := 1) (ret := none) (by decide) rfl ?_
  intro p e s m args below meth c s₁ B hml hv
  obtain ⟨rfl, hsz, hP, hK, hD0⟩ := hv
  have hx := B.exec
  have hb := B.bytes
  have hr := B.returns
  have hts := atoms_spec (ws := wsX7_init) B.pre
  have hown : s.vm.findClass RX7 = some m.cls := findClass_of_methodNamed B.named
  have hlocks := B.notSynchronized
  have hin : meth.name = "<init>" := (name_of_methodNamed B.named B.method).1
  subst hsz
  have hD := hD0.self (sz := s.heap.size)
  generalize hAe : va_A [(h0, .inr (7, [.int 0, .int 0, .null, .null, .null, .null, .null, .null, .null, .null, .null, .int 0, .int 0, .null, .null, .null, .null, .null, .int 0, .int 0]))] s.heap.size = A at hD ⊢
  have hA : ∀ q : Nat, s.heap.size ≤ q → A q := fun q h => by rw [← hAe]; exact Or.inr h
  have hS : va_S A s.heap s.heap [] := va_S.rf
  have hP : va_P (dC, dI) vwCl [(h0, .inr (7, [.int 0, .int 0, .null, .null, .null, .null, .null, .null, .null, .null, .null, .int 0, .int 0, .null, .null, .null, .null, .null, .int 0, .int 0]))] s.heap := hP
  have hl := lv_entry ([.ref h0]) (n := 1) (Nat.le_of_ble_eq_true rfl)
  rw [lg_entry_eq]
  generalize (lg_sl ([.ref h0]) ++ List.replicate (1 - (lg_sl ([.ref h0])).length) Slot.unset).toArray = ls at hl ⊢
  have hl : lv_has ls 1 [(0, .ref h0)] := hl
  refine lv_aload_n hx hb dX7_init_0 rfl (lv_at hl 0 rfl) ?_
  refine W.objInit hx hb hown (hts (.methodLink RX7 5 objectInit) (by decide +kernel)) (hts (.instanceMethod objectInit) (by decide +kernel)) (hts (.code objectInit ⟨#[0xb1]⟩ 1 none) (by decide +kernel)) rfl (by rw [hml]; exact hl.1) rfl dX7_init_1 (by decide +kernel) (Nat.le_of_ble_eq_true rfl) ?_
  refine W.eq (g2 := F0 m 4 ls []) rfl ?_
  refine lv_aload_n hx hb dX7_init_4 rfl (lv_at hl 0 rfl) ?_
  refine lv_bipush (v := 16) hx hb dX7_init_5 (by decide) ?_
  refine va_newa (atype := .int) (ty := .int) (N' := 16) (a0 := (16, .inl (fun _ => 0))) hx hb (hts (.arrayClass .int) (by decide +kernel)) rfl hK hP hD hS hA (fun _ => rfl) (by decide) (by decide) (by decide +kernel) (by decide +kernel) (by decide +kernel) dX7_init_7 (fun q7 k7 H hK hP hD hS => ?_)
  have hP : va_P (dC, dI) vwCl [(h0, .inr (7, [.int 0, .int 0, .null, .null, .null, .null, .null, .null, .null, .null, .null, .int 0, .int 0, .null, .null, .null, .null, .null, .int 0, .int 0])), (q7, .inl (k7, 16, .inl (fun _ => 0)))] H := hP
  have hD : va_D A [(h0, .inr (7, [.int 0, .int 0, .null, .null, .null, .null, .null, .null, .null, .null, .null, .int 0, .int 0, .null, .null, .null, .null, .null, .int 0, .int 0])), (q7, .inl (k7, 16, .inl (fun _ => 0)))] := hD
  have hK : va_K (dC, dI) vwCl [(k7, .int)] s := hK
  refine W.widen (k := 1) (n := 16) (by decide +kernel) (by decide +kernel) ?_
  refine va_putF (D := (dC, dI)) (ci := 7) (v := .ref q7) (ty := .array .int) (C := RX7) (T := TX7) (N := 20) hx hb hts iX7_init_in7 tyX7 tyX7_ok nmX7 hown hK hP hD hS 0 rfl rfl 2 (by decide) (hts (.fieldLink RX7 11 "OptimaWorks$ValueDesk" "pairs" "[I") (by decide +kernel)) (fun _ h9 => h9) rfl hin rfl (by decide +kernel) rfl rfl (Nat.le_of_ble_eq_true rfl) dX7_init_9 (fun H locs hP hD hS => ?_)
  have hP : va_P (dC, dI) vwCl [(h0, .inr (7, [.int 0, .int 0, .ref q7, .null, .null, .null, .null, .null, .null, .null, .null, .int 0, .int 0, .null, .null, .null, .null, .null, .int 0, .int 0])), (q7, .inl (k7, 16, .inl (fun _ => 0)))] H := hP
  have hD : va_D A [(h0, .inr (7, [.int 0, .int 0, .ref q7, .null, .null, .null, .null, .null, .null, .null, .null, .int 0, .int 0, .null, .null, .null, .null, .null, .int 0, .int 0])), (q7, .inl (k7, 16, .inl (fun _ => 0)))] := hD
  refine lv_aload_n hx hb dX7_init_12 rfl (lv_at hl 0 rfl) ?_
  refine lv_bipush (v := 10) hx hb dX7_init_13 (by decide) ?_
  refine va_newa (atype := .int) (ty := .int) (N' := 10) (a0 := (10, .inl (fun _ => 0))) hx hb (hts (.arrayClass .int) (by decide +kernel)) rfl hK hP hD hS hA (fun _ => rfl) (by decide) (by decide) (by decide +kernel) (by decide +kernel) (by decide +kernel) dX7_init_15 (fun q15 k15 H hK hP hD hS => ?_)
  have hP : va_P (dC, dI) vwCl [(h0, .inr (7, [.int 0, .int 0, .ref q7, .null, .null, .null, .null, .null, .null, .null, .null, .int 0, .int 0, .null, .null, .null, .null, .null, .int 0, .int 0])), (q7, .inl (k7, 16, .inl (fun _ => 0))), (q15, .inl (k15, 10, .inl (fun _ => 0)))] H := hP
  have hD : va_D A [(h0, .inr (7, [.int 0, .int 0, .ref q7, .null, .null, .null, .null, .null, .null, .null, .null, .int 0, .int 0, .null, .null, .null, .null, .null, .int 0, .int 0])), (q7, .inl (k7, 16, .inl (fun _ => 0))), (q15, .inl (k15, 10, .inl (fun _ => 0)))] := hD
  have hK : va_K (dC, dI) vwCl [(k7, .int), (k15, .int)] s := hK
  refine W.widen (k := 2) (n := 26) (by decide +kernel) (by decide +kernel) ?_
  refine va_putF (D := (dC, dI)) (ci := 7) (v := .ref q15) (ty := .array .int) (C := RX7) (T := TX7) (N := 20) hx hb hts iX7_init_in7 tyX7 tyX7_ok nmX7 hown hK hP hD hS 0 rfl rfl 3 (by decide) (hts (.fieldLink RX7 15 "OptimaWorks$ValueDesk" "domain" "[I") (by decide +kernel)) (fun _ h9 => h9) rfl hin rfl (by decide +kernel) rfl rfl (Nat.le_of_ble_eq_true rfl) dX7_init_17 (fun H locs hP hD hS => ?_)
  have hP : va_P (dC, dI) vwCl [(h0, .inr (7, [.int 0, .int 0, .ref q7, .ref q15, .null, .null, .null, .null, .null, .null, .null, .int 0, .int 0, .null, .null, .null, .null, .null, .int 0, .int 0])), (q7, .inl (k7, 16, .inl (fun _ => 0))), (q15, .inl (k15, 10, .inl (fun _ => 0)))] H := hP
  have hD : va_D A [(h0, .inr (7, [.int 0, .int 0, .ref q7, .ref q15, .null, .null, .null, .null, .null, .null, .null, .int 0, .int 0, .null, .null, .null, .null, .null, .int 0, .int 0])), (q7, .inl (k7, 16, .inl (fun _ => 0))), (q15, .inl (k15, 10, .inl (fun _ => 0)))] := hD
  refine lv_aload_n hx hb dX7_init_20 rfl (lv_at hl 0 rfl) ?_
  refine lv_bipush (v := 12) hx hb dX7_init_21 (by decide) ?_
  refine va_newa (atype := .int) (ty := .int) (N' := 12) (a0 := (12, .inl (fun _ => 0))) hx hb (hts (.arrayClass .int) (by decide +kernel)) rfl hK hP hD hS hA (fun _ => rfl) (by decide) (by decide) (by decide +kernel) (by decide +kernel) (by decide +kernel) dX7_init_23 (fun q23 k23 H hK hP hD hS => ?_)
  have hP : va_P (dC, dI) vwCl [(h0, .inr (7, [.int 0, .int 0, .ref q7, .ref q15, .null, .null, .null, .null, .null, .null, .null, .int 0, .int 0, .null, .null, .null, .null, .null, .int 0, .int 0])), (q7, .inl (k7, 16, .inl (fun _ => 0))), (q15, .inl (k15, 10, .inl (fun _ => 0))), (q23, .inl (k23, 12, .inl (fun _ => 0)))] H := hP
  have hD : va_D A [(h0, .inr (7, [.int 0, .int 0, .ref q7, .ref q15, .null, .null, .null, .null, .null, .null, .null, .int 0, .int 0, .null, .null, .null, .null, .null, .int 0, .int 0])), (q7, .inl (k7, 16, .inl (fun _ => 0))), (q15, .inl (k15, 10, .inl (fun _ => 0))), (q23, .inl (k23, 12, .inl (fun _ => 0)))] := hD
  have hK : va_K (dC, dI) vwCl [(k7, .int), (k15, .int), (k23, .int)] s := hK
  refine W.widen (k := 3) (n := 38) (by decide +kernel) (by decide +kernel) ?_
  refine va_putF (D := (dC, dI)) (ci := 7) (v := .ref q23) (ty := .array .int) (C := RX7) (T := TX7) (N := 20) hx hb hts iX7_init_in7 tyX7 tyX7_ok nmX7 hown hK hP hD hS 0 rfl rfl 4 (by decide) (hts (.fieldLink RX7 18 "OptimaWorks$ValueDesk" "kind" "[I") (by decide +kernel)) (fun _ h9 => h9) rfl hin rfl (by decide +kernel) rfl rfl (Nat.le_of_ble_eq_true rfl) dX7_init_25 (fun H locs hP hD hS => ?_)
  have hP : va_P (dC, dI) vwCl [(h0, .inr (7, [.int 0, .int 0, .ref q7, .ref q15, .ref q23, .null, .null, .null, .null, .null, .null, .int 0, .int 0, .null, .null, .null, .null, .null, .int 0, .int 0])), (q7, .inl (k7, 16, .inl (fun _ => 0))), (q15, .inl (k15, 10, .inl (fun _ => 0))), (q23, .inl (k23, 12, .inl (fun _ => 0)))] H := hP
  have hD : va_D A [(h0, .inr (7, [.int 0, .int 0, .ref q7, .ref q15, .ref q23, .null, .null, .null, .null, .null, .null, .int 0, .int 0, .null, .null, .null, .null, .null, .int 0, .int 0])), (q7, .inl (k7, 16, .inl (fun _ => 0))), (q15, .inl (k15, 10, .inl (fun _ => 0))), (q23, .inl (k23, 12, .inl (fun _ => 0)))] := hD
  refine lv_aload_n hx hb dX7_init_28 rfl (lv_at hl 0 rfl) ?_
  refine lv_bipush (v := 12) hx hb dX7_init_29 (by decide) ?_
  refine va_newa (atype := .int) (ty := .int) (N' := 12) (a0 := (12, .inl (fun _ => 0))) hx hb (hts (.arrayClass .int) (by decide +kernel)) rfl hK hP hD hS hA (fun _ => rfl) (by decide) (by decide) (by decide +kernel) (by decide +kernel) (by decide +kernel) dX7_init_31 (fun q31 k31 H hK hP hD hS => ?_)
  have hP : va_P (dC, dI) vwCl [(h0, .inr (7, [.int 0, .int 0, .ref q7, .ref q15, .ref q23, .null, .null, .null, .null, .null, .null, .int 0, .int 0, .null, .null, .null, .null, .null, .int 0, .int 0])), (q7, .inl (k7, 16, .inl (fun _ => 0))), (q15, .inl (k15, 10, .inl (fun _ => 0))), (q23, .inl (k23, 12, .inl (fun _ => 0))), (q31, .inl (k31, 12, .inl (fun _ => 0)))] H := hP
  have hD : va_D A [(h0, .inr (7, [.int 0, .int 0, .ref q7, .ref q15, .ref q23, .null, .null, .null, .null, .null, .null, .int 0, .int 0, .null, .null, .null, .null, .null, .int 0, .int 0])), (q7, .inl (k7, 16, .inl (fun _ => 0))), (q15, .inl (k15, 10, .inl (fun _ => 0))), (q23, .inl (k23, 12, .inl (fun _ => 0))), (q31, .inl (k31, 12, .inl (fun _ => 0)))] := hD
  have hK : va_K (dC, dI) vwCl [(k7, .int), (k15, .int), (k23, .int), (k31, .int)] s := hK
  refine W.widen (k := 4) (n := 50) (by decide +kernel) (by decide +kernel) ?_
  refine va_putF (D := (dC, dI)) (ci := 7) (v := .ref q31) (ty := .array .int) (C := RX7) (T := TX7) (N := 20) hx hb hts iX7_init_in7 tyX7 tyX7_ok nmX7 hown hK hP hD hS 0 rfl rfl 5 (by decide) (hts (.fieldLink RX7 21 "OptimaWorks$ValueDesk" "a" "[I") (by decide +kernel)) (fun _ h9 => h9) rfl hin rfl (by decide +kernel) rfl rfl (Nat.le_of_ble_eq_true rfl) dX7_init_33 (fun H locs hP hD hS => ?_)
  have hP : va_P (dC, dI) vwCl [(h0, .inr (7, [.int 0, .int 0, .ref q7, .ref q15, .ref q23, .ref q31, .null, .null, .null, .null, .null, .int 0, .int 0, .null, .null, .null, .null, .null, .int 0, .int 0])), (q7, .inl (k7, 16, .inl (fun _ => 0))), (q15, .inl (k15, 10, .inl (fun _ => 0))), (q23, .inl (k23, 12, .inl (fun _ => 0))), (q31, .inl (k31, 12, .inl (fun _ => 0)))] H := hP
  have hD : va_D A [(h0, .inr (7, [.int 0, .int 0, .ref q7, .ref q15, .ref q23, .ref q31, .null, .null, .null, .null, .null, .int 0, .int 0, .null, .null, .null, .null, .null, .int 0, .int 0])), (q7, .inl (k7, 16, .inl (fun _ => 0))), (q15, .inl (k15, 10, .inl (fun _ => 0))), (q23, .inl (k23, 12, .inl (fun _ => 0))), (q31, .inl (k31, 12, .inl (fun _ => 0)))] := hD
  refine lv_aload_n hx hb dX7_init_36 rfl (lv_at hl 0 rfl) ?_
  refine lv_bipush (v := 12) hx hb dX7_init_37 (by decide) ?_
  refine va_newa (atype := .int) (ty := .int) (N' := 12) (a0 := (12, .inl (fun _ => 0))) hx hb (hts (.arrayClass .int) (by decide +kernel)) rfl hK hP hD hS hA (fun _ => rfl) (by decide) (by decide) (by decide +kernel) (by decide +kernel) (by decide +kernel) dX7_init_39 (fun q39 k39 H hK hP hD hS => ?_)
  have hP : va_P (dC, dI) vwCl [(h0, .inr (7, [.int 0, .int 0, .ref q7, .ref q15, .ref q23, .ref q31, .null, .null, .null, .null, .null, .int 0, .int 0, .null, .null, .null, .null, .null, .int 0, .int 0])), (q7, .inl (k7, 16, .inl (fun _ => 0))), (q15, .inl (k15, 10, .inl (fun _ => 0))), (q23, .inl (k23, 12, .inl (fun _ => 0))), (q31, .inl (k31, 12, .inl (fun _ => 0))), (q39, .inl (k39, 12, .inl (fun _ => 0)))] H := hP
  have hD : va_D A [(h0, .inr (7, [.int 0, .int 0, .ref q7, .ref q15, .ref q23, .ref q31, .null, .null, .null, .null, .null, .int 0, .int 0, .null, .null, .null, .null, .null, .int 0, .int 0])), (q7, .inl (k7, 16, .inl (fun _ => 0))), (q15, .inl (k15, 10, .inl (fun _ => 0))), (q23, .inl (k23, 12, .inl (fun _ => 0))), (q31, .inl (k31, 12, .inl (fun _ => 0))), (q39, .inl (k39, 12, .inl (fun _ => 0)))] := hD
  have hK : va_K (dC, dI) vwCl [(k7, .int), (k15, .int), (k23, .int), (k31, .int), (k39, .int)] s := hK
  refine W.widen (k := 5) (n := 62) (by decide +kernel) (by decide +kernel) ?_
  refine va_putF (D := (dC, dI)) (ci := 7) (v := .ref q39) (ty := .array .int) (C := RX7) (T := TX7) (N := 20) hx hb hts iX7_init_in7 tyX7 tyX7_ok nmX7 hown hK hP hD hS 0 rfl rfl 6 (by decide) (hts (.fieldLink RX7 24 "OptimaWorks$ValueDesk" "b" "[I") (by decide +kernel)) (fun _ h9 => h9) rfl hin rfl (by decide +kernel) rfl rfl (Nat.le_of_ble_eq_true rfl) dX7_init_41 (fun H locs hP hD hS => ?_)
  have hP : va_P (dC, dI) vwCl [(h0, .inr (7, [.int 0, .int 0, .ref q7, .ref q15, .ref q23, .ref q31, .ref q39, .null, .null, .null, .null, .int 0, .int 0, .null, .null, .null, .null, .null, .int 0, .int 0])), (q7, .inl (k7, 16, .inl (fun _ => 0))), (q15, .inl (k15, 10, .inl (fun _ => 0))), (q23, .inl (k23, 12, .inl (fun _ => 0))), (q31, .inl (k31, 12, .inl (fun _ => 0))), (q39, .inl (k39, 12, .inl (fun _ => 0)))] H := hP
  have hD : va_D A [(h0, .inr (7, [.int 0, .int 0, .ref q7, .ref q15, .ref q23, .ref q31, .ref q39, .null, .null, .null, .null, .int 0, .int 0, .null, .null, .null, .null, .null, .int 0, .int 0])), (q7, .inl (k7, 16, .inl (fun _ => 0))), (q15, .inl (k15, 10, .inl (fun _ => 0))), (q23, .inl (k23, 12, .inl (fun _ => 0))), (q31, .inl (k31, 12, .inl (fun _ => 0))), (q39, .inl (k39, 12, .inl (fun _ => 0)))] := hD
  refine lv_aload_n hx hb dX7_init_44 rfl (lv_at hl 0 rfl) ?_
  refine lv_bipush (v := 12) hx hb dX7_init_45 (by decide) ?_
  refine va_newa (atype := .int) (ty := .int) (N' := 12) (a0 := (12, .inl (fun _ => 0))) hx hb (hts (.arrayClass .int) (by decide +kernel)) rfl hK hP hD hS hA (fun _ => rfl) (by decide) (by decide) (by decide +kernel) (by decide +kernel) (by decide +kernel) dX7_init_47 (fun q47 k47 H hK hP hD hS => ?_)
  have hP : va_P (dC, dI) vwCl [(h0, .inr (7, [.int 0, .int 0, .ref q7, .ref q15, .ref q23, .ref q31, .ref q39, .null, .null, .null, .null, .int 0, .int 0, .null, .null, .null, .null, .null, .int 0, .int 0])), (q7, .inl (k7, 16, .inl (fun _ => 0))), (q15, .inl (k15, 10, .inl (fun _ => 0))), (q23, .inl (k23, 12, .inl (fun _ => 0))), (q31, .inl (k31, 12, .inl (fun _ => 0))), (q39, .inl (k39, 12, .inl (fun _ => 0))), (q47, .inl (k47, 12, .inl (fun _ => 0)))] H := hP
  have hD : va_D A [(h0, .inr (7, [.int 0, .int 0, .ref q7, .ref q15, .ref q23, .ref q31, .ref q39, .null, .null, .null, .null, .int 0, .int 0, .null, .null, .null, .null, .null, .int 0, .int 0])), (q7, .inl (k7, 16, .inl (fun _ => 0))), (q15, .inl (k15, 10, .inl (fun _ => 0))), (q23, .inl (k23, 12, .inl (fun _ => 0))), (q31, .inl (k31, 12, .inl (fun _ => 0))), (q39, .inl (k39, 12, .inl (fun _ => 0))), (q47, .inl (k47, 12, .inl (fun _ => 0)))] := hD
  have hK : va_K (dC, dI) vwCl [(k7, .int), (k15, .int), (k23, .int), (k31, .int), (k39, .int), (k47, .int)] s := hK
  refine W.widen (k := 6) (n := 74) (by decide +kernel) (by decide +kernel) ?_
  refine va_putF (D := (dC, dI)) (ci := 7) (v := .ref q47) (ty := .array .int) (C := RX7) (T := TX7) (N := 20) hx hb hts iX7_init_in7 tyX7 tyX7_ok nmX7 hown hK hP hD hS 0 rfl rfl 7 (by decide) (hts (.fieldLink RX7 27 "OptimaWorks$ValueDesk" "c" "[I") (by decide +kernel)) (fun _ h9 => h9) rfl hin rfl (by decide +kernel) rfl rfl (Nat.le_of_ble_eq_true rfl) dX7_init_49 (fun H locs hP hD hS => ?_)
  have hP : va_P (dC, dI) vwCl [(h0, .inr (7, [.int 0, .int 0, .ref q7, .ref q15, .ref q23, .ref q31, .ref q39, .ref q47, .null, .null, .null, .int 0, .int 0, .null, .null, .null, .null, .null, .int 0, .int 0])), (q7, .inl (k7, 16, .inl (fun _ => 0))), (q15, .inl (k15, 10, .inl (fun _ => 0))), (q23, .inl (k23, 12, .inl (fun _ => 0))), (q31, .inl (k31, 12, .inl (fun _ => 0))), (q39, .inl (k39, 12, .inl (fun _ => 0))), (q47, .inl (k47, 12, .inl (fun _ => 0)))] H := hP
  have hD : va_D A [(h0, .inr (7, [.int 0, .int 0, .ref q7, .ref q15, .ref q23, .ref q31, .ref q39, .ref q47, .null, .null, .null, .int 0, .int 0, .null, .null, .null, .null, .null, .int 0, .int 0])), (q7, .inl (k7, 16, .inl (fun _ => 0))), (q15, .inl (k15, 10, .inl (fun _ => 0))), (q23, .inl (k23, 12, .inl (fun _ => 0))), (q31, .inl (k31, 12, .inl (fun _ => 0))), (q39, .inl (k39, 12, .inl (fun _ => 0))), (q47, .inl (k47, 12, .inl (fun _ => 0)))] := hD
  refine lv_aload_n hx hb dX7_init_52 rfl (lv_at hl 0 rfl) ?_
  refine lv_sipush (v := 192) hx hb dX7_init_53 (by decide) ?_
  refine va_newa (atype := .int) (ty := .int) (N' := 192) (a0 := (192, .inl (fun _ => 0))) hx hb (hts (.arrayClass .int) (by decide +kernel)) rfl hK hP hD hS hA (fun _ => rfl) (by decide) (by decide) (by decide +kernel) (by decide +kernel) (by decide +kernel) dX7_init_56 (fun q56 k56 H hK hP hD hS => ?_)
  have hP : va_P (dC, dI) vwCl [(h0, .inr (7, [.int 0, .int 0, .ref q7, .ref q15, .ref q23, .ref q31, .ref q39, .ref q47, .null, .null, .null, .int 0, .int 0, .null, .null, .null, .null, .null, .int 0, .int 0])), (q7, .inl (k7, 16, .inl (fun _ => 0))), (q15, .inl (k15, 10, .inl (fun _ => 0))), (q23, .inl (k23, 12, .inl (fun _ => 0))), (q31, .inl (k31, 12, .inl (fun _ => 0))), (q39, .inl (k39, 12, .inl (fun _ => 0))), (q47, .inl (k47, 12, .inl (fun _ => 0))), (q56, .inl (k56, 192, .inl (fun _ => 0)))] H := hP
  have hD : va_D A [(h0, .inr (7, [.int 0, .int 0, .ref q7, .ref q15, .ref q23, .ref q31, .ref q39, .ref q47, .null, .null, .null, .int 0, .int 0, .null, .null, .null, .null, .null, .int 0, .int 0])), (q7, .inl (k7, 16, .inl (fun _ => 0))), (q15, .inl (k15, 10, .inl (fun _ => 0))), (q23, .inl (k23, 12, .inl (fun _ => 0))), (q31, .inl (k31, 12, .inl (fun _ => 0))), (q39, .inl (k39, 12, .inl (fun _ => 0))), (q47, .inl (k47, 12, .inl (fun _ => 0))), (q56, .inl (k56, 192, .inl (fun _ => 0)))] := hD
  have hK : va_K (dC, dI) vwCl [(k7, .int), (k15, .int), (k23, .int), (k31, .int), (k39, .int), (k47, .int), (k56, .int)] s := hK
  refine W.widen (k := 7) (n := 266) (by decide +kernel) (by decide +kernel) ?_
  refine va_putF (D := (dC, dI)) (ci := 7) (v := .ref q56) (ty := .array .int) (C := RX7) (T := TX7) (N := 20) hx hb hts iX7_init_in7 tyX7 tyX7_ok nmX7 hown hK hP hD hS 0 rfl rfl 8 (by decide) (hts (.fieldLink RX7 30 "OptimaWorks$ValueDesk" "rulePairs" "[I") (by decide +kernel)) (fun _ h9 => h9) rfl hin rfl (by decide +kernel) rfl rfl (Nat.le_of_ble_eq_true rfl) dX7_init_58 (fun H locs hP hD hS => ?_)
  have hP : va_P (dC, dI) vwCl [(h0, .inr (7, [.int 0, .int 0, .ref q7, .ref q15, .ref q23, .ref q31, .ref q39, .ref q47, .ref q56, .null, .null, .int 0, .int 0, .null, .null, .null, .null, .null, .int 0, .int 0])), (q7, .inl (k7, 16, .inl (fun _ => 0))), (q15, .inl (k15, 10, .inl (fun _ => 0))), (q23, .inl (k23, 12, .inl (fun _ => 0))), (q31, .inl (k31, 12, .inl (fun _ => 0))), (q39, .inl (k39, 12, .inl (fun _ => 0))), (q47, .inl (k47, 12, .inl (fun _ => 0))), (q56, .inl (k56, 192, .inl (fun _ => 0)))] H := hP
  have hD : va_D A [(h0, .inr (7, [.int 0, .int 0, .ref q7, .ref q15, .ref q23, .ref q31, .ref q39, .ref q47, .ref q56, .null, .null, .int 0, .int 0, .null, .null, .null, .null, .null, .int 0, .int 0])), (q7, .inl (k7, 16, .inl (fun _ => 0))), (q15, .inl (k15, 10, .inl (fun _ => 0))), (q23, .inl (k23, 12, .inl (fun _ => 0))), (q31, .inl (k31, 12, .inl (fun _ => 0))), (q39, .inl (k39, 12, .inl (fun _ => 0))), (q47, .inl (k47, 12, .inl (fun _ => 0))), (q56, .inl (k56, 192, .inl (fun _ => 0)))] := hD
  refine lv_aload_n hx hb dX7_init_61 rfl (lv_at hl 0 rfl) ?_
  refine lv_bipush (v := 12) hx hb dX7_init_62 (by decide) ?_
  refine va_newa (atype := .int) (ty := .int) (N' := 12) (a0 := (12, .inl (fun _ => 0))) hx hb (hts (.arrayClass .int) (by decide +kernel)) rfl hK hP hD hS hA (fun _ => rfl) (by decide) (by decide) (by decide +kernel) (by decide +kernel) (by decide +kernel) dX7_init_64 (fun q64 k64 H hK hP hD hS => ?_)
  have hP : va_P (dC, dI) vwCl [(h0, .inr (7, [.int 0, .int 0, .ref q7, .ref q15, .ref q23, .ref q31, .ref q39, .ref q47, .ref q56, .null, .null, .int 0, .int 0, .null, .null, .null, .null, .null, .int 0, .int 0])), (q7, .inl (k7, 16, .inl (fun _ => 0))), (q15, .inl (k15, 10, .inl (fun _ => 0))), (q23, .inl (k23, 12, .inl (fun _ => 0))), (q31, .inl (k31, 12, .inl (fun _ => 0))), (q39, .inl (k39, 12, .inl (fun _ => 0))), (q47, .inl (k47, 12, .inl (fun _ => 0))), (q56, .inl (k56, 192, .inl (fun _ => 0))), (q64, .inl (k64, 12, .inl (fun _ => 0)))] H := hP
  have hD : va_D A [(h0, .inr (7, [.int 0, .int 0, .ref q7, .ref q15, .ref q23, .ref q31, .ref q39, .ref q47, .ref q56, .null, .null, .int 0, .int 0, .null, .null, .null, .null, .null, .int 0, .int 0])), (q7, .inl (k7, 16, .inl (fun _ => 0))), (q15, .inl (k15, 10, .inl (fun _ => 0))), (q23, .inl (k23, 12, .inl (fun _ => 0))), (q31, .inl (k31, 12, .inl (fun _ => 0))), (q39, .inl (k39, 12, .inl (fun _ => 0))), (q47, .inl (k47, 12, .inl (fun _ => 0))), (q56, .inl (k56, 192, .inl (fun _ => 0))), (q64, .inl (k64, 12, .inl (fun _ => 0)))] := hD
  have hK : va_K (dC, dI) vwCl [(k7, .int), (k15, .int), (k23, .int), (k31, .int), (k39, .int), (k47, .int), (k56, .int), (k64, .int)] s := hK
  refine W.widen (k := 8) (n := 278) (by decide +kernel) (by decide +kernel) ?_
  refine va_putF (D := (dC, dI)) (ci := 7) (v := .ref q64) (ty := .array .int) (C := RX7) (T := TX7) (N := 20) hx hb hts iX7_init_in7 tyX7 tyX7_ok nmX7 hown hK hP hD hS 0 rfl rfl 9 (by decide) (hts (.fieldLink RX7 33 "OptimaWorks$ValueDesk" "lastHolder" "[I") (by decide +kernel)) (fun _ h9 => h9) rfl hin rfl (by decide +kernel) rfl rfl (Nat.le_of_ble_eq_true rfl) dX7_init_66 (fun H locs hP hD hS => ?_)
  have hP : va_P (dC, dI) vwCl [(h0, .inr (7, [.int 0, .int 0, .ref q7, .ref q15, .ref q23, .ref q31, .ref q39, .ref q47, .ref q56, .ref q64, .null, .int 0, .int 0, .null, .null, .null, .null, .null, .int 0, .int 0])), (q7, .inl (k7, 16, .inl (fun _ => 0))), (q15, .inl (k15, 10, .inl (fun _ => 0))), (q23, .inl (k23, 12, .inl (fun _ => 0))), (q31, .inl (k31, 12, .inl (fun _ => 0))), (q39, .inl (k39, 12, .inl (fun _ => 0))), (q47, .inl (k47, 12, .inl (fun _ => 0))), (q56, .inl (k56, 192, .inl (fun _ => 0))), (q64, .inl (k64, 12, .inl (fun _ => 0)))] H := hP
  have hD : va_D A [(h0, .inr (7, [.int 0, .int 0, .ref q7, .ref q15, .ref q23, .ref q31, .ref q39, .ref q47, .ref q56, .ref q64, .null, .int 0, .int 0, .null, .null, .null, .null, .null, .int 0, .int 0])), (q7, .inl (k7, 16, .inl (fun _ => 0))), (q15, .inl (k15, 10, .inl (fun _ => 0))), (q23, .inl (k23, 12, .inl (fun _ => 0))), (q31, .inl (k31, 12, .inl (fun _ => 0))), (q39, .inl (k39, 12, .inl (fun _ => 0))), (q47, .inl (k47, 12, .inl (fun _ => 0))), (q56, .inl (k56, 192, .inl (fun _ => 0))), (q64, .inl (k64, 12, .inl (fun _ => 0)))] := hD
  refine lv_aload_n hx hb dX7_init_69 rfl (lv_at hl 0 rfl) ?_
  refine lv_bipush (v := 10) hx hb dX7_init_70 (by decide) ?_
  refine va_newa (atype := .int) (ty := .int) (N' := 10) (a0 := (10, .inl (fun _ => 0))) hx hb (hts (.arrayClass .int) (by decide +kernel)) rfl hK hP hD hS hA (fun _ => rfl) (by decide) (by decide) (by decide +kernel) (by decide +kernel) (by decide +kernel) dX7_init_72 (fun q72 k72 H hK hP hD hS => ?_)
  have hP : va_P (dC, dI) vwCl [(h0, .inr (7, [.int 0, .int 0, .ref q7, .ref q15, .ref q23, .ref q31, .ref q39, .ref q47, .ref q56, .ref q64, .null, .int 0, .int 0, .null, .null, .null, .null, .null, .int 0, .int 0])), (q7, .inl (k7, 16, .inl (fun _ => 0))), (q15, .inl (k15, 10, .inl (fun _ => 0))), (q23, .inl (k23, 12, .inl (fun _ => 0))), (q31, .inl (k31, 12, .inl (fun _ => 0))), (q39, .inl (k39, 12, .inl (fun _ => 0))), (q47, .inl (k47, 12, .inl (fun _ => 0))), (q56, .inl (k56, 192, .inl (fun _ => 0))), (q64, .inl (k64, 12, .inl (fun _ => 0))), (q72, .inl (k72, 10, .inl (fun _ => 0)))] H := hP
  have hD : va_D A [(h0, .inr (7, [.int 0, .int 0, .ref q7, .ref q15, .ref q23, .ref q31, .ref q39, .ref q47, .ref q56, .ref q64, .null, .int 0, .int 0, .null, .null, .null, .null, .null, .int 0, .int 0])), (q7, .inl (k7, 16, .inl (fun _ => 0))), (q15, .inl (k15, 10, .inl (fun _ => 0))), (q23, .inl (k23, 12, .inl (fun _ => 0))), (q31, .inl (k31, 12, .inl (fun _ => 0))), (q39, .inl (k39, 12, .inl (fun _ => 0))), (q47, .inl (k47, 12, .inl (fun _ => 0))), (q56, .inl (k56, 192, .inl (fun _ => 0))), (q64, .inl (k64, 12, .inl (fun _ => 0))), (q72, .inl (k72, 10, .inl (fun _ => 0)))] := hD
  have hK : va_K (dC, dI) vwCl [(k7, .int), (k15, .int), (k23, .int), (k31, .int), (k39, .int), (k47, .int), (k56, .int), (k64, .int), (k72, .int)] s := hK
  refine W.widen (k := 9) (n := 288) (by decide +kernel) (by decide +kernel) ?_
  refine va_putF (D := (dC, dI)) (ci := 7) (v := .ref q72) (ty := .array .int) (C := RX7) (T := TX7) (N := 20) hx hb hts iX7_init_in7 tyX7 tyX7_ok nmX7 hown hK hP hD hS 0 rfl rfl 10 (by decide) (hts (.fieldLink RX7 36 "OptimaWorks$ValueDesk" "now" "[I") (by decide +kernel)) (fun _ h9 => h9) rfl hin rfl (by decide +kernel) rfl rfl (Nat.le_of_ble_eq_true rfl) dX7_init_74 (fun H locs hP hD hS => ?_)
  have hP : va_P (dC, dI) vwCl [(h0, .inr (7, [.int 0, .int 0, .ref q7, .ref q15, .ref q23, .ref q31, .ref q39, .ref q47, .ref q56, .ref q64, .ref q72, .int 0, .int 0, .null, .null, .null, .null, .null, .int 0, .int 0])), (q7, .inl (k7, 16, .inl (fun _ => 0))), (q15, .inl (k15, 10, .inl (fun _ => 0))), (q23, .inl (k23, 12, .inl (fun _ => 0))), (q31, .inl (k31, 12, .inl (fun _ => 0))), (q39, .inl (k39, 12, .inl (fun _ => 0))), (q47, .inl (k47, 12, .inl (fun _ => 0))), (q56, .inl (k56, 192, .inl (fun _ => 0))), (q64, .inl (k64, 12, .inl (fun _ => 0))), (q72, .inl (k72, 10, .inl (fun _ => 0)))] H := hP
  have hD : va_D A [(h0, .inr (7, [.int 0, .int 0, .ref q7, .ref q15, .ref q23, .ref q31, .ref q39, .ref q47, .ref q56, .ref q64, .ref q72, .int 0, .int 0, .null, .null, .null, .null, .null, .int 0, .int 0])), (q7, .inl (k7, 16, .inl (fun _ => 0))), (q15, .inl (k15, 10, .inl (fun _ => 0))), (q23, .inl (k23, 12, .inl (fun _ => 0))), (q31, .inl (k31, 12, .inl (fun _ => 0))), (q39, .inl (k39, 12, .inl (fun _ => 0))), (q47, .inl (k47, 12, .inl (fun _ => 0))), (q56, .inl (k56, 192, .inl (fun _ => 0))), (q64, .inl (k64, 12, .inl (fun _ => 0))), (q72, .inl (k72, 10, .inl (fun _ => 0)))] := hD
  refine lv_aload_n hx hb dX7_init_77 rfl (lv_at hl 0 rfl) ?_
  refine lv_iconst (v := (-1)) hx hb dX7_init_78 (by decide) ?_
  refine va_put (D := (dC, dI)) (ci := 7) (v := .int (-1)) (ty := .int) (C := RX7) (T := TX7) (N := 20) hx hb hts iX7_init_in7 tyX7 tyX7_ok nmX7 hown hK hP hD hS 0 rfl rfl 11 (by decide) (hts (.fieldLink RX7 39 "OptimaWorks$ValueDesk" "doneFor" "I") (by decide +kernel)) (fun _ h9 => h9) rfl (by decide +kernel) rfl rfl (Nat.le_of_ble_eq_true rfl) dX7_init_79 (fun H locs hP hD hS => ?_)
  have hP : va_P (dC, dI) vwCl [(h0, .inr (7, [.int 0, .int 0, .ref q7, .ref q15, .ref q23, .ref q31, .ref q39, .ref q47, .ref q56, .ref q64, .ref q72, .int (-1), .int 0, .null, .null, .null, .null, .null, .int 0, .int 0])), (q7, .inl (k7, 16, .inl (fun _ => 0))), (q15, .inl (k15, 10, .inl (fun _ => 0))), (q23, .inl (k23, 12, .inl (fun _ => 0))), (q31, .inl (k31, 12, .inl (fun _ => 0))), (q39, .inl (k39, 12, .inl (fun _ => 0))), (q47, .inl (k47, 12, .inl (fun _ => 0))), (q56, .inl (k56, 192, .inl (fun _ => 0))), (q64, .inl (k64, 12, .inl (fun _ => 0))), (q72, .inl (k72, 10, .inl (fun _ => 0)))] H := hP
  have hD : va_D A [(h0, .inr (7, [.int 0, .int 0, .ref q7, .ref q15, .ref q23, .ref q31, .ref q39, .ref q47, .ref q56, .ref q64, .ref q72, .int (-1), .int 0, .null, .null, .null, .null, .null, .int 0, .int 0])), (q7, .inl (k7, 16, .inl (fun _ => 0))), (q15, .inl (k15, 10, .inl (fun _ => 0))), (q23, .inl (k23, 12, .inl (fun _ => 0))), (q31, .inl (k31, 12, .inl (fun _ => 0))), (q39, .inl (k39, 12, .inl (fun _ => 0))), (q47, .inl (k47, 12, .inl (fun _ => 0))), (q56, .inl (k56, 192, .inl (fun _ => 0))), (q64, .inl (k64, 12, .inl (fun _ => 0))), (q72, .inl (k72, 10, .inl (fun _ => 0)))] := hD
  refine lv_aload_n hx hb dX7_init_82 rfl (lv_at hl 0 rfl) ?_
  refine lv_bipush (v := 33) hx hb dX7_init_83 (by decide) ?_
  refine va_newa (atype := .long) (ty := .long) (N' := 33) (a0 := (33, .inr (.inl (fun _ => 0)))) hx hb (hts (.arrayClass .long) (by decide +kernel)) rfl hK hP hD hS hA (fun _ => rfl) (by decide) (by decide) (by decide +kernel) (by decide +kernel) (by decide +kernel) dX7_init_85 (fun q85 k85 H hK hP hD hS => ?_)
  have hP : va_P (dC, dI) vwCl [(h0, .inr (7, [.int 0, .int 0, .ref q7, .ref q15, .ref q23, .ref q31, .ref q39, .ref q47, .ref q56, .ref q64, .ref q72, .int (-1), .int 0, .null, .null, .null, .null, .null, .int 0, .int 0])), (q7, .inl (k7, 16, .inl (fun _ => 0))), (q15, .inl (k15, 10, .inl (fun _ => 0))), (q23, .inl (k23, 12, .inl (fun _ => 0))), (q31, .inl (k31, 12, .inl (fun _ => 0))), (q39, .inl (k39, 12, .inl (fun _ => 0))), (q47, .inl (k47, 12, .inl (fun _ => 0))), (q56, .inl (k56, 192, .inl (fun _ => 0))), (q64, .inl (k64, 12, .inl (fun _ => 0))), (q72, .inl (k72, 10, .inl (fun _ => 0))), (q85, .inl (k85, 33, .inr (.inl (fun _ => 0))))] H := hP
  have hD : va_D A [(h0, .inr (7, [.int 0, .int 0, .ref q7, .ref q15, .ref q23, .ref q31, .ref q39, .ref q47, .ref q56, .ref q64, .ref q72, .int (-1), .int 0, .null, .null, .null, .null, .null, .int 0, .int 0])), (q7, .inl (k7, 16, .inl (fun _ => 0))), (q15, .inl (k15, 10, .inl (fun _ => 0))), (q23, .inl (k23, 12, .inl (fun _ => 0))), (q31, .inl (k31, 12, .inl (fun _ => 0))), (q39, .inl (k39, 12, .inl (fun _ => 0))), (q47, .inl (k47, 12, .inl (fun _ => 0))), (q56, .inl (k56, 192, .inl (fun _ => 0))), (q64, .inl (k64, 12, .inl (fun _ => 0))), (q72, .inl (k72, 10, .inl (fun _ => 0))), (q85, .inl (k85, 33, .inr (.inl (fun _ => 0))))] := hD
  have hK : va_K (dC, dI) vwCl [(k7, .int), (k15, .int), (k23, .int), (k31, .int), (k39, .int), (k47, .int), (k56, .int), (k64, .int), (k72, .int), (k85, .long)] s := hK
  refine W.widen (k := 10) (n := 321) (by decide +kernel) (by decide +kernel) ?_
  refine va_putF (D := (dC, dI)) (ci := 7) (v := .ref q85) (ty := .array .long) (C := RX7) (T := TX7) (N := 20) hx hb hts iX7_init_in7 tyX7 tyX7_ok nmX7 hown hK hP hD hS 0 rfl rfl 13 (by decide) (hts (.fieldLink RX7 43 "OptimaWorks$ValueDesk" "fore" "[J") (by decide +kernel)) (fun _ h9 => h9) rfl hin rfl (by decide +kernel) rfl rfl (Nat.le_of_ble_eq_true rfl) dX7_init_87 (fun H locs hP hD hS => ?_)
  have hP : va_P (dC, dI) vwCl [(h0, .inr (7, [.int 0, .int 0, .ref q7, .ref q15, .ref q23, .ref q31, .ref q39, .ref q47, .ref q56, .ref q64, .ref q72, .int (-1), .int 0, .ref q85, .null, .null, .null, .null, .int 0, .int 0])), (q7, .inl (k7, 16, .inl (fun _ => 0))), (q15, .inl (k15, 10, .inl (fun _ => 0))), (q23, .inl (k23, 12, .inl (fun _ => 0))), (q31, .inl (k31, 12, .inl (fun _ => 0))), (q39, .inl (k39, 12, .inl (fun _ => 0))), (q47, .inl (k47, 12, .inl (fun _ => 0))), (q56, .inl (k56, 192, .inl (fun _ => 0))), (q64, .inl (k64, 12, .inl (fun _ => 0))), (q72, .inl (k72, 10, .inl (fun _ => 0))), (q85, .inl (k85, 33, .inr (.inl (fun _ => 0))))] H := hP
  have hD : va_D A [(h0, .inr (7, [.int 0, .int 0, .ref q7, .ref q15, .ref q23, .ref q31, .ref q39, .ref q47, .ref q56, .ref q64, .ref q72, .int (-1), .int 0, .ref q85, .null, .null, .null, .null, .int 0, .int 0])), (q7, .inl (k7, 16, .inl (fun _ => 0))), (q15, .inl (k15, 10, .inl (fun _ => 0))), (q23, .inl (k23, 12, .inl (fun _ => 0))), (q31, .inl (k31, 12, .inl (fun _ => 0))), (q39, .inl (k39, 12, .inl (fun _ => 0))), (q47, .inl (k47, 12, .inl (fun _ => 0))), (q56, .inl (k56, 192, .inl (fun _ => 0))), (q64, .inl (k64, 12, .inl (fun _ => 0))), (q72, .inl (k72, 10, .inl (fun _ => 0))), (q85, .inl (k85, 33, .inr (.inl (fun _ => 0))))] := hD
  refine lv_aload_n hx hb dX7_init_90 rfl (lv_at hl 0 rfl) ?_
  refine lv_bipush (v := 33) hx hb dX7_init_91 (by decide) ?_
  refine va_newa (atype := .long) (ty := .long) (N' := 33) (a0 := (33, .inr (.inl (fun _ => 0)))) hx hb (hts (.arrayClass .long) (by decide +kernel)) rfl hK hP hD hS hA (fun _ => rfl) (by decide) (by decide) (by decide +kernel) (by decide +kernel) (by decide +kernel) dX7_init_93 (fun q93 k93 H hK hP hD hS => ?_)
  have hP : va_P (dC, dI) vwCl [(h0, .inr (7, [.int 0, .int 0, .ref q7, .ref q15, .ref q23, .ref q31, .ref q39, .ref q47, .ref q56, .ref q64, .ref q72, .int (-1), .int 0, .ref q85, .null, .null, .null, .null, .int 0, .int 0])), (q7, .inl (k7, 16, .inl (fun _ => 0))), (q15, .inl (k15, 10, .inl (fun _ => 0))), (q23, .inl (k23, 12, .inl (fun _ => 0))), (q31, .inl (k31, 12, .inl (fun _ => 0))), (q39, .inl (k39, 12, .inl (fun _ => 0))), (q47, .inl (k47, 12, .inl (fun _ => 0))), (q56, .inl (k56, 192, .inl (fun _ => 0))), (q64, .inl (k64, 12, .inl (fun _ => 0))), (q72, .inl (k72, 10, .inl (fun _ => 0))), (q85, .inl (k85, 33, .inr (.inl (fun _ => 0)))), (q93, .inl (k93, 33, .inr (.inl (fun _ => 0))))] H := hP
  have hD : va_D A [(h0, .inr (7, [.int 0, .int 0, .ref q7, .ref q15, .ref q23, .ref q31, .ref q39, .ref q47, .ref q56, .ref q64, .ref q72, .int (-1), .int 0, .ref q85, .null, .null, .null, .null, .int 0, .int 0])), (q7, .inl (k7, 16, .inl (fun _ => 0))), (q15, .inl (k15, 10, .inl (fun _ => 0))), (q23, .inl (k23, 12, .inl (fun _ => 0))), (q31, .inl (k31, 12, .inl (fun _ => 0))), (q39, .inl (k39, 12, .inl (fun _ => 0))), (q47, .inl (k47, 12, .inl (fun _ => 0))), (q56, .inl (k56, 192, .inl (fun _ => 0))), (q64, .inl (k64, 12, .inl (fun _ => 0))), (q72, .inl (k72, 10, .inl (fun _ => 0))), (q85, .inl (k85, 33, .inr (.inl (fun _ => 0)))), (q93, .inl (k93, 33, .inr (.inl (fun _ => 0))))] := hD
  have hK : va_K (dC, dI) vwCl [(k7, .int), (k15, .int), (k23, .int), (k31, .int), (k39, .int), (k47, .int), (k56, .int), (k64, .int), (k72, .int), (k85, .long), (k93, .long)] s := hK
  refine W.widen (k := 11) (n := 354) (by decide +kernel) (by decide +kernel) ?_
  refine va_putF (D := (dC, dI)) (ci := 7) (v := .ref q93) (ty := .array .long) (C := RX7) (T := TX7) (N := 20) hx hb hts iX7_init_in7 tyX7 tyX7_ok nmX7 hown hK hP hD hS 0 rfl rfl 14 (by decide) (hts (.fieldLink RX7 47 "OptimaWorks$ValueDesk" "back" "[J") (by decide +kernel)) (fun _ h9 => h9) rfl hin rfl (by decide +kernel) rfl rfl (Nat.le_of_ble_eq_true rfl) dX7_init_95 (fun H locs hP hD hS => ?_)
  have hP : va_P (dC, dI) vwCl [(h0, .inr (7, [.int 0, .int 0, .ref q7, .ref q15, .ref q23, .ref q31, .ref q39, .ref q47, .ref q56, .ref q64, .ref q72, .int (-1), .int 0, .ref q85, .ref q93, .null, .null, .null, .int 0, .int 0])), (q7, .inl (k7, 16, .inl (fun _ => 0))), (q15, .inl (k15, 10, .inl (fun _ => 0))), (q23, .inl (k23, 12, .inl (fun _ => 0))), (q31, .inl (k31, 12, .inl (fun _ => 0))), (q39, .inl (k39, 12, .inl (fun _ => 0))), (q47, .inl (k47, 12, .inl (fun _ => 0))), (q56, .inl (k56, 192, .inl (fun _ => 0))), (q64, .inl (k64, 12, .inl (fun _ => 0))), (q72, .inl (k72, 10, .inl (fun _ => 0))), (q85, .inl (k85, 33, .inr (.inl (fun _ => 0)))), (q93, .inl (k93, 33, .inr (.inl (fun _ => 0))))] H := hP
  have hD : va_D A [(h0, .inr (7, [.int 0, .int 0, .ref q7, .ref q15, .ref q23, .ref q31, .ref q39, .ref q47, .ref q56, .ref q64, .ref q72, .int (-1), .int 0, .ref q85, .ref q93, .null, .null, .null, .int 0, .int 0])), (q7, .inl (k7, 16, .inl (fun _ => 0))), (q15, .inl (k15, 10, .inl (fun _ => 0))), (q23, .inl (k23, 12, .inl (fun _ => 0))), (q31, .inl (k31, 12, .inl (fun _ => 0))), (q39, .inl (k39, 12, .inl (fun _ => 0))), (q47, .inl (k47, 12, .inl (fun _ => 0))), (q56, .inl (k56, 192, .inl (fun _ => 0))), (q64, .inl (k64, 12, .inl (fun _ => 0))), (q72, .inl (k72, 10, .inl (fun _ => 0))), (q85, .inl (k85, 33, .inr (.inl (fun _ => 0)))), (q93, .inl (k93, 33, .inr (.inl (fun _ => 0))))] := hD
  refine lv_aload_n hx hb dX7_init_98 rfl (lv_at hl 0 rfl) ?_
  refine lv_sipush (v := 1024) hx hb dX7_init_99 (by decide) ?_
  refine va_newa (atype := .int) (ty := .int) (N' := 1024) (a0 := (1024, .inl (fun _ => 0))) hx hb (hts (.arrayClass .int) (by decide +kernel)) rfl hK hP hD hS hA (fun _ => rfl) (by decide) (by decide) (by decide +kernel) (by decide +kernel) (by decide +kernel) dX7_init_102 (fun q102 k102 H hK hP hD hS => ?_)
  have hP : va_P (dC, dI) vwCl [(h0, .inr (7, [.int 0, .int 0, .ref q7, .ref q15, .ref q23, .ref q31, .ref q39, .ref q47, .ref q56, .ref q64, .ref q72, .int (-1), .int 0, .ref q85, .ref q93, .null, .null, .null, .int 0, .int 0])), (q7, .inl (k7, 16, .inl (fun _ => 0))), (q15, .inl (k15, 10, .inl (fun _ => 0))), (q23, .inl (k23, 12, .inl (fun _ => 0))), (q31, .inl (k31, 12, .inl (fun _ => 0))), (q39, .inl (k39, 12, .inl (fun _ => 0))), (q47, .inl (k47, 12, .inl (fun _ => 0))), (q56, .inl (k56, 192, .inl (fun _ => 0))), (q64, .inl (k64, 12, .inl (fun _ => 0))), (q72, .inl (k72, 10, .inl (fun _ => 0))), (q85, .inl (k85, 33, .inr (.inl (fun _ => 0)))), (q93, .inl (k93, 33, .inr (.inl (fun _ => 0)))), (q102, .inl (k102, 1024, .inl (fun _ => 0)))] H := hP
  have hD : va_D A [(h0, .inr (7, [.int 0, .int 0, .ref q7, .ref q15, .ref q23, .ref q31, .ref q39, .ref q47, .ref q56, .ref q64, .ref q72, .int (-1), .int 0, .ref q85, .ref q93, .null, .null, .null, .int 0, .int 0])), (q7, .inl (k7, 16, .inl (fun _ => 0))), (q15, .inl (k15, 10, .inl (fun _ => 0))), (q23, .inl (k23, 12, .inl (fun _ => 0))), (q31, .inl (k31, 12, .inl (fun _ => 0))), (q39, .inl (k39, 12, .inl (fun _ => 0))), (q47, .inl (k47, 12, .inl (fun _ => 0))), (q56, .inl (k56, 192, .inl (fun _ => 0))), (q64, .inl (k64, 12, .inl (fun _ => 0))), (q72, .inl (k72, 10, .inl (fun _ => 0))), (q85, .inl (k85, 33, .inr (.inl (fun _ => 0)))), (q93, .inl (k93, 33, .inr (.inl (fun _ => 0)))), (q102, .inl (k102, 1024, .inl (fun _ => 0)))] := hD
  have hK : va_K (dC, dI) vwCl [(k7, .int), (k15, .int), (k23, .int), (k31, .int), (k39, .int), (k47, .int), (k56, .int), (k64, .int), (k72, .int), (k85, .long), (k93, .long), (k102, .int)] s := hK
  refine W.widen (k := 12) (n := 1378) (by decide +kernel) (by decide +kernel) ?_
  refine va_putF (D := (dC, dI)) (ci := 7) (v := .ref q102) (ty := .array .int) (C := RX7) (T := TX7) (N := 20) hx hb hts iX7_init_in7 tyX7 tyX7_ok nmX7 hown hK hP hD hS 0 rfl rfl 15 (by decide) (hts (.fieldLink RX7 50 "OptimaWorks$ValueDesk" "together" "[I") (by decide +kernel)) (fun _ h9 => h9) rfl hin rfl (by decide +kernel) rfl rfl (Nat.le_of_ble_eq_true rfl) dX7_init_104 (fun H locs hP hD hS => ?_)
  have hP : va_P (dC, dI) vwCl [(h0, .inr (7, [.int 0, .int 0, .ref q7, .ref q15, .ref q23, .ref q31, .ref q39, .ref q47, .ref q56, .ref q64, .ref q72, .int (-1), .int 0, .ref q85, .ref q93, .ref q102, .null, .null, .int 0, .int 0])), (q7, .inl (k7, 16, .inl (fun _ => 0))), (q15, .inl (k15, 10, .inl (fun _ => 0))), (q23, .inl (k23, 12, .inl (fun _ => 0))), (q31, .inl (k31, 12, .inl (fun _ => 0))), (q39, .inl (k39, 12, .inl (fun _ => 0))), (q47, .inl (k47, 12, .inl (fun _ => 0))), (q56, .inl (k56, 192, .inl (fun _ => 0))), (q64, .inl (k64, 12, .inl (fun _ => 0))), (q72, .inl (k72, 10, .inl (fun _ => 0))), (q85, .inl (k85, 33, .inr (.inl (fun _ => 0)))), (q93, .inl (k93, 33, .inr (.inl (fun _ => 0)))), (q102, .inl (k102, 1024, .inl (fun _ => 0)))] H := hP
  have hD : va_D A [(h0, .inr (7, [.int 0, .int 0, .ref q7, .ref q15, .ref q23, .ref q31, .ref q39, .ref q47, .ref q56, .ref q64, .ref q72, .int (-1), .int 0, .ref q85, .ref q93, .ref q102, .null, .null, .int 0, .int 0])), (q7, .inl (k7, 16, .inl (fun _ => 0))), (q15, .inl (k15, 10, .inl (fun _ => 0))), (q23, .inl (k23, 12, .inl (fun _ => 0))), (q31, .inl (k31, 12, .inl (fun _ => 0))), (q39, .inl (k39, 12, .inl (fun _ => 0))), (q47, .inl (k47, 12, .inl (fun _ => 0))), (q56, .inl (k56, 192, .inl (fun _ => 0))), (q64, .inl (k64, 12, .inl (fun _ => 0))), (q72, .inl (k72, 10, .inl (fun _ => 0))), (q85, .inl (k85, 33, .inr (.inl (fun _ => 0)))), (q93, .inl (k93, 33, .inr (.inl (fun _ => 0)))), (q102, .inl (k102, 1024, .inl (fun _ => 0)))] := hD
  refine lv_aload_n hx hb dX7_init_107 rfl (lv_at hl 0 rfl) ?_
  refine lv_bipush (v := 10) hx hb dX7_init_108 (by decide) ?_
  refine va_newa (atype := .int) (ty := .int) (N' := 10) (a0 := (10, .inl (fun _ => 0))) hx hb (hts (.arrayClass .int) (by decide +kernel)) rfl hK hP hD hS hA (fun _ => rfl) (by decide) (by decide) (by decide +kernel) (by decide +kernel) (by decide +kernel) dX7_init_110 (fun q110 k110 H hK hP hD hS => ?_)
  have hP : va_P (dC, dI) vwCl [(h0, .inr (7, [.int 0, .int 0, .ref q7, .ref q15, .ref q23, .ref q31, .ref q39, .ref q47, .ref q56, .ref q64, .ref q72, .int (-1), .int 0, .ref q85, .ref q93, .ref q102, .null, .null, .int 0, .int 0])), (q7, .inl (k7, 16, .inl (fun _ => 0))), (q15, .inl (k15, 10, .inl (fun _ => 0))), (q23, .inl (k23, 12, .inl (fun _ => 0))), (q31, .inl (k31, 12, .inl (fun _ => 0))), (q39, .inl (k39, 12, .inl (fun _ => 0))), (q47, .inl (k47, 12, .inl (fun _ => 0))), (q56, .inl (k56, 192, .inl (fun _ => 0))), (q64, .inl (k64, 12, .inl (fun _ => 0))), (q72, .inl (k72, 10, .inl (fun _ => 0))), (q85, .inl (k85, 33, .inr (.inl (fun _ => 0)))), (q93, .inl (k93, 33, .inr (.inl (fun _ => 0)))), (q102, .inl (k102, 1024, .inl (fun _ => 0))), (q110, .inl (k110, 10, .inl (fun _ => 0)))] H := hP
  have hD : va_D A [(h0, .inr (7, [.int 0, .int 0, .ref q7, .ref q15, .ref q23, .ref q31, .ref q39, .ref q47, .ref q56, .ref q64, .ref q72, .int (-1), .int 0, .ref q85, .ref q93, .ref q102, .null, .null, .int 0, .int 0])), (q7, .inl (k7, 16, .inl (fun _ => 0))), (q15, .inl (k15, 10, .inl (fun _ => 0))), (q23, .inl (k23, 12, .inl (fun _ => 0))), (q31, .inl (k31, 12, .inl (fun _ => 0))), (q39, .inl (k39, 12, .inl (fun _ => 0))), (q47, .inl (k47, 12, .inl (fun _ => 0))), (q56, .inl (k56, 192, .inl (fun _ => 0))), (q64, .inl (k64, 12, .inl (fun _ => 0))), (q72, .inl (k72, 10, .inl (fun _ => 0))), (q85, .inl (k85, 33, .inr (.inl (fun _ => 0)))), (q93, .inl (k93, 33, .inr (.inl (fun _ => 0)))), (q102, .inl (k102, 1024, .inl (fun _ => 0))), (q110, .inl (k110, 10, .inl (fun _ => 0)))] := hD
  have hK : va_K (dC, dI) vwCl [(k7, .int), (k15, .int), (k23, .int), (k31, .int), (k39, .int), (k47, .int), (k56, .int), (k64, .int), (k72, .int), (k85, .long), (k93, .long), (k102, .int), (k110, .int)] s := hK
  refine W.widen (k := 13) (n := 1388) (by decide +kernel) (by decide +kernel) ?_
  refine va_putF (D := (dC, dI)) (ci := 7) (v := .ref q110) (ty := .array .int) (C := RX7) (T := TX7) (N := 20) hx hb hts iX7_init_in7 tyX7 tyX7_ok nmX7 hown hK hP hD hS 0 rfl rfl 16 (by decide) (hts (.fieldLink RX7 53 "OptimaWorks$ValueDesk" "member" "[I") (by decide +kernel)) (fun _ h9 => h9) rfl hin rfl (by decide +kernel) rfl rfl (Nat.le_of_ble_eq_true rfl) dX7_init_112 (fun H locs hP hD hS => ?_)
  have hP : va_P (dC, dI) vwCl [(h0, .inr (7, [.int 0, .int 0, .ref q7, .ref q15, .ref q23, .ref q31, .ref q39, .ref q47, .ref q56, .ref q64, .ref q72, .int (-1), .int 0, .ref q85, .ref q93, .ref q102, .ref q110, .null, .int 0, .int 0])), (q7, .inl (k7, 16, .inl (fun _ => 0))), (q15, .inl (k15, 10, .inl (fun _ => 0))), (q23, .inl (k23, 12, .inl (fun _ => 0))), (q31, .inl (k31, 12, .inl (fun _ => 0))), (q39, .inl (k39, 12, .inl (fun _ => 0))), (q47, .inl (k47, 12, .inl (fun _ => 0))), (q56, .inl (k56, 192, .inl (fun _ => 0))), (q64, .inl (k64, 12, .inl (fun _ => 0))), (q72, .inl (k72, 10, .inl (fun _ => 0))), (q85, .inl (k85, 33, .inr (.inl (fun _ => 0)))), (q93, .inl (k93, 33, .inr (.inl (fun _ => 0)))), (q102, .inl (k102, 1024, .inl (fun _ => 0))), (q110, .inl (k110, 10, .inl (fun _ => 0)))] H := hP
  have hD : va_D A [(h0, .inr (7, [.int 0, .int 0, .ref q7, .ref q15, .ref q23, .ref q31, .ref q39, .ref q47, .ref q56, .ref q64, .ref q72, .int (-1), .int 0, .ref q85, .ref q93, .ref q102, .ref q110, .null, .int 0, .int 0])), (q7, .inl (k7, 16, .inl (fun _ => 0))), (q15, .inl (k15, 10, .inl (fun _ => 0))), (q23, .inl (k23, 12, .inl (fun _ => 0))), (q31, .inl (k31, 12, .inl (fun _ => 0))), (q39, .inl (k39, 12, .inl (fun _ => 0))), (q47, .inl (k47, 12, .inl (fun _ => 0))), (q56, .inl (k56, 192, .inl (fun _ => 0))), (q64, .inl (k64, 12, .inl (fun _ => 0))), (q72, .inl (k72, 10, .inl (fun _ => 0))), (q85, .inl (k85, 33, .inr (.inl (fun _ => 0)))), (q93, .inl (k93, 33, .inr (.inl (fun _ => 0)))), (q102, .inl (k102, 1024, .inl (fun _ => 0))), (q110, .inl (k110, 10, .inl (fun _ => 0)))] := hD
  refine lv_aload_n hx hb dX7_init_115 rfl (lv_at hl 0 rfl) ?_
  refine lv_iconst (v := 0) hx hb dX7_init_116 (by decide) ?_
  refine va_newa (atype := .long) (ty := .long) (N' := 0) (a0 := (0, .inr (.inl (fun _ => 0)))) hx hb (hts (.arrayClass .long) (by decide +kernel)) rfl hK hP hD hS hA (fun _ => rfl) (by decide) (by decide) (by decide +kernel) (by decide +kernel) (by decide +kernel) dX7_init_117 (fun q117 k117 H hK hP hD hS => ?_)
  have hP : va_P (dC, dI) vwCl [(h0, .inr (7, [.int 0, .int 0, .ref q7, .ref q15, .ref q23, .ref q31, .ref q39, .ref q47, .ref q56, .ref q64, .ref q72, .int (-1), .int 0, .ref q85, .ref q93, .ref q102, .ref q110, .null, .int 0, .int 0])), (q7, .inl (k7, 16, .inl (fun _ => 0))), (q15, .inl (k15, 10, .inl (fun _ => 0))), (q23, .inl (k23, 12, .inl (fun _ => 0))), (q31, .inl (k31, 12, .inl (fun _ => 0))), (q39, .inl (k39, 12, .inl (fun _ => 0))), (q47, .inl (k47, 12, .inl (fun _ => 0))), (q56, .inl (k56, 192, .inl (fun _ => 0))), (q64, .inl (k64, 12, .inl (fun _ => 0))), (q72, .inl (k72, 10, .inl (fun _ => 0))), (q85, .inl (k85, 33, .inr (.inl (fun _ => 0)))), (q93, .inl (k93, 33, .inr (.inl (fun _ => 0)))), (q102, .inl (k102, 1024, .inl (fun _ => 0))), (q110, .inl (k110, 10, .inl (fun _ => 0))), (q117, .inl (k117, 0, .inr (.inl (fun _ => 0))))] H := hP
  have hD : va_D A [(h0, .inr (7, [.int 0, .int 0, .ref q7, .ref q15, .ref q23, .ref q31, .ref q39, .ref q47, .ref q56, .ref q64, .ref q72, .int (-1), .int 0, .ref q85, .ref q93, .ref q102, .ref q110, .null, .int 0, .int 0])), (q7, .inl (k7, 16, .inl (fun _ => 0))), (q15, .inl (k15, 10, .inl (fun _ => 0))), (q23, .inl (k23, 12, .inl (fun _ => 0))), (q31, .inl (k31, 12, .inl (fun _ => 0))), (q39, .inl (k39, 12, .inl (fun _ => 0))), (q47, .inl (k47, 12, .inl (fun _ => 0))), (q56, .inl (k56, 192, .inl (fun _ => 0))), (q64, .inl (k64, 12, .inl (fun _ => 0))), (q72, .inl (k72, 10, .inl (fun _ => 0))), (q85, .inl (k85, 33, .inr (.inl (fun _ => 0)))), (q93, .inl (k93, 33, .inr (.inl (fun _ => 0)))), (q102, .inl (k102, 1024, .inl (fun _ => 0))), (q110, .inl (k110, 10, .inl (fun _ => 0))), (q117, .inl (k117, 0, .inr (.inl (fun _ => 0))))] := hD
  have hK : va_K (dC, dI) vwCl [(k7, .int), (k15, .int), (k23, .int), (k31, .int), (k39, .int), (k47, .int), (k56, .int), (k64, .int), (k72, .int), (k85, .long), (k93, .long), (k102, .int), (k110, .int), (k117, .long)] s := hK
  refine W.widen (k := 14) (n := 1388) (by decide +kernel) (by decide +kernel) ?_
  refine va_put (D := (dC, dI)) (ci := 7) (v := .ref q117) (ty := .array .long) (C := RX7) (T := TX7) (N := 20) hx hb hts iX7_init_in7 tyX7 tyX7_ok nmX7 hown hK hP hD hS 0 rfl rfl 17 (by decide) (hts (.fieldLink RX7 56 "OptimaWorks$ValueDesk" "list" "[J") (by decide +kernel)) (fun _ h9 => h9) rfl (by decide +kernel) rfl rfl (Nat.le_of_ble_eq_true rfl) dX7_init_119 (fun H locs hP hD hS => ?_)
  have hP : va_P (dC, dI) vwCl [(h0, .inr (7, [.int 0, .int 0, .ref q7, .ref q15, .ref q23, .ref q31, .ref q39, .ref q47, .ref q56, .ref q64, .ref q72, .int (-1), .int 0, .ref q85, .ref q93, .ref q102, .ref q110, .ref q117, .int 0, .int 0])), (q7, .inl (k7, 16, .inl (fun _ => 0))), (q15, .inl (k15, 10, .inl (fun _ => 0))), (q23, .inl (k23, 12, .inl (fun _ => 0))), (q31, .inl (k31, 12, .inl (fun _ => 0))), (q39, .inl (k39, 12, .inl (fun _ => 0))), (q47, .inl (k47, 12, .inl (fun _ => 0))), (q56, .inl (k56, 192, .inl (fun _ => 0))), (q64, .inl (k64, 12, .inl (fun _ => 0))), (q72, .inl (k72, 10, .inl (fun _ => 0))), (q85, .inl (k85, 33, .inr (.inl (fun _ => 0)))), (q93, .inl (k93, 33, .inr (.inl (fun _ => 0)))), (q102, .inl (k102, 1024, .inl (fun _ => 0))), (q110, .inl (k110, 10, .inl (fun _ => 0))), (q117, .inl (k117, 0, .inr (.inl (fun _ => 0))))] H := hP
  have hD : va_D A [(h0, .inr (7, [.int 0, .int 0, .ref q7, .ref q15, .ref q23, .ref q31, .ref q39, .ref q47, .ref q56, .ref q64, .ref q72, .int (-1), .int 0, .ref q85, .ref q93, .ref q102, .ref q110, .ref q117, .int 0, .int 0])), (q7, .inl (k7, 16, .inl (fun _ => 0))), (q15, .inl (k15, 10, .inl (fun _ => 0))), (q23, .inl (k23, 12, .inl (fun _ => 0))), (q31, .inl (k31, 12, .inl (fun _ => 0))), (q39, .inl (k39, 12, .inl (fun _ => 0))), (q47, .inl (k47, 12, .inl (fun _ => 0))), (q56, .inl (k56, 192, .inl (fun _ => 0))), (q64, .inl (k64, 12, .inl (fun _ => 0))), (q72, .inl (k72, 10, .inl (fun _ => 0))), (q85, .inl (k85, 33, .inr (.inl (fun _ => 0)))), (q93, .inl (k93, 33, .inr (.inl (fun _ => 0)))), (q102, .inl (k102, 1024, .inl (fun _ => 0))), (q110, .inl (k110, 10, .inl (fun _ => 0))), (q117, .inl (k117, 0, .inr (.inl (fun _ => 0))))] := hD
  refine W.widen (k := 14) (n := 1388) (by decide +kernel) (by decide +kernel) ?_
  exact W.vret hx hb hr (fun t ht hW => ⟨⟨((fun n => [q7, q15, q23, q31, q39, q47, q56, q64, q72, q85, q93, q102, q110, q117].getD n 0), (fun n => [k7, k15, k23, k31, k39, k47, k56, k64, k72, k85, k93, k102, k110, k117].getD n k7)), rfl, trivial, by rw [ht]; exact hP, va_K.moved hW.alike hK, hD⟩, hS.F ht⟩) hS.2.2 dX7_init_122
end
section
def wsX12_thrown : List Cond := .code yX12_thrown cX12_thrown 1 (some .int) :: ([.fieldLink RX12 348 "OptimaWorksModel" "thrown" "I"] ++ wsX120)
theorem dX12_thrown_0 : decode cX12_thrown 0 = .ok (.aload_n 0, 1) := by decide +kernel
theorem dX12_thrown_1 : decode cX12_thrown 1 = .ok (.getfield 348, 3) := by decide +kernel
theorem dX12_thrown_4 : decode cX12_thrown 4 = .ok (.ireturn, 1) := by decide +kernel
theorem iX12_thrown_in12 : ∀ w ∈ wsX120, w ∈ wsX12_thrown := fun _ h => List.mem_cons_of_mem _ (List.mem_append_right _ h)
set_option maxHeartbeats 4000000 in
set_option maxRecDepth 100000 in
/-- thrown(): the field -/
theorem c_X12_thrown (l : Launch) (dC : Nat → ClassId) (dI : Nat → Nat → Nat) (h0 : Nat) (v : Nat → Value) (x_thrown : Int32) (h_thrown : v 0 = .int x_thrown)  (sz : Nat) : Met l yX12_thrown wsX12_thrown ({ frames := 0, cells := 0, slots := 0, locals := 0 }) (va_Pc [.ref h0] (fun U => U.heap.size = sz ∧ va_P (dC, dI) vwCl [(h0, .inr (12, fM v))] U.heap ∧ va_K (dC, dI) vwCl [] U ∧ va_D (fun _ => True) [(h0, .inr (12, fM v))])) (va_Qi (fun (r : Int32) (w : (Nat → Value)) => r = (x_thrown) ∧ w = v) (fun w t => va_P (dC, dI) vwCl [(h0, .inr (12, fM w))] t.heap ∧ va_K (dC, dI) vwCl [] t ∧ va_D (va_A [(h0, .inr (12, fM v))] sz) [(h0, .inr (12, fM w))]) (va_A [(h0, .inr (12, fM v))] sz)) 0 0 (va_A [(h0, .inr (12, fM v))] sz) := by
  refine Met.ofW (cc := cX12_thrown) (maxL := 1) (ret := (some .int)) (by decide) rfl ?_
  intro p e s m args below meth c s₁ B hml hv
  obtain ⟨rfl, hsz, hP, hK, hD0⟩ := hv
  have hx := B.exec
  have hb := B.bytes
  have hr := B.returns
  have hts := atoms_spec (ws := wsX12_thrown) B.pre
  have hown : s.vm.findClass RX12 = some m.cls := findClass_of_methodNamed B.named
  have hlocks := B.notSynchronized
  subst hsz
  have hD := hD0.self (sz := s.heap.size)
  generalize hAe : va_A [(h0, .inr (12, fM v))] s.heap.size = A at hD ⊢
  have hA : ∀ q : Nat, s.heap.size ≤ q → A q := fun q h => by rw [← hAe]; exact Or.inr h
  have hS : va_S A s.heap s.heap [] := va_S.rf
  have hP : va_P (dC, dI) vwCl [(h0, .inr (12, fM v))] s.heap := hP
  have hl := lv_entry ([.ref h0]) (n := 1) (Nat.le_of_ble_eq_true rfl)
  rw [lg_entry_eq]
  generalize (lg_sl ([.ref h0]) ++ List.replicate (1 - (lg_sl ([.ref h0])).length) Slot.unset).toArray = ls at hl ⊢
  have hl : lv_has ls 1 [(0, .ref h0)] := hl
  refine lv_aload_n hx hb dX12_thrown_0 rfl (lv_at hl 0 rfl) ?_
  refine va_get (D := (dC, dI)) (ci := 12) (v := .int x_thrown) (C := RX12) (T := TX12) (N := 163) hx hb hts iX12_thrown_in12 hown hK hP 0 rfl rfl 0 (by decide) (hts (.fieldLink RX12 348 "OptimaWorksModel" "thrown" "I") (by decide +kernel)) (fun _ h9 => h9) (congrArg some h_thrown) dX12_thrown_1 ?_
  refine W.widen (k := 0) (n := 0) (by decide +kernel) (by decide +kernel) ?_
  exact W.iret (v := x_thrown) hx hb hr (fun t ht hW => ⟨⟨x_thrown, (v), rfl, ⟨rfl, rfl⟩, by rw [ht]; exact hP, va_K.moved hW.alike hK, hD⟩, hS.F ht⟩) hS.2.2 dX12_thrown_4
def wsX12_wipe : List Cond := .code yX12_wipe cX12_wipe 1 none :: ([.fieldLink RX12 348 "OptimaWorksModel" "thrown" "I", .fieldLink RX12 468 "OptimaWorksModel" "taped" "I"] ++ wsX120)
theorem dX12_wipe_0 : decode cX12_wipe 0 = .ok (.aload_n 0, 1) := by decide +kernel
theorem dX12_wipe_1 : decode cX12_wipe 1 = .ok (.iconst 0, 1) := by decide +kernel
theorem dX12_wipe_2 : decode cX12_wipe 2 = .ok (.putfield 348, 3) := by decide +kernel
theorem dX12_wipe_5 : decode cX12_wipe 5 = .ok (.aload_n 0, 1) := by decide +kernel
theorem dX12_wipe_6 : decode cX12_wipe 6 = .ok (.iconst 0, 1) := by decide +kernel
theorem dX12_wipe_7 : decode cX12_wipe 7 = .ok (.putfield 468, 3) := by decide +kernel
theorem dX12_wipe_10 : decode cX12_wipe 10 = .ok (.return_, 1) := by decide +kernel
theorem iX12_wipe_in12 : ∀ w ∈ wsX120, w ∈ wsX12_wipe := fun _ h => List.mem_cons_of_mem _ (List.mem_append_right _ h)
set_option maxHeartbeats 4000000 in
set_option maxRecDepth 100000 in
/-- wipe(): nothing is thrown, nothing on the tape -/
theorem c_X12_wipe (l : Launch) (dC : Nat → ClassId) (dI : Nat → Nat → Nat) (h0 : Nat) (v : Nat → Value)   (sz : Nat) : Met l yX12_wipe wsX12_wipe ({ frames := 0, cells := 0, slots := 0, locals := 0 }) (va_Pc [.ref h0] (fun U => U.heap.size = sz ∧ va_P (dC, dI) vwCl [(h0, .inr (12, fM v))] U.heap ∧ va_K (dC, dI) vwCl [] U ∧ va_D (fun _ => True) [(h0, .inr (12, fM v))])) (va_Qv (fun w : (Nat → Value) => w = mUp (mUp v 0 (.int 0)) 16 (.int 0)) (fun w t => va_P (dC, dI) vwCl [(h0, .inr (12, fM w))] t.heap ∧ va_K (dC, dI) vwCl [] t ∧ va_D (va_A [(h0, .inr (12, fM v))] sz) [(h0, .inr (12, fM w))]) (va_A [(h0, .inr (12, fM v))] sz)) 0 0 (va_A [(h0, .inr (12, fM v))] sz) := by
  refine Met.ofW (cc := cX12_wipe) (maxL := 1) (ret := none) (by decide) rfl ?_
  intro p e s m args below meth c s₁ B hml hv
  obtain ⟨rfl, hsz, hP, hK, hD0⟩ := hv
  have hx := B.exec
  have hb := B.bytes
  have hr := B.returns
  have hts := atoms_spec (ws := wsX12_wipe) B.pre
  have hown : s.vm.findClass RX12 = some m.cls := findClass_of_methodNamed B.named
  have hlocks := B.notSynchronized
  subst hsz
  have hD := hD0.self (sz := s.heap.size)
  generalize hAe : va_A [(h0, .inr (12, fM v))] s.heap.size = A at hD ⊢
  have hA : ∀ q : Nat, s.heap.size ≤ q → A q := fun q h => by rw [← hAe]; exact Or.inr h
  have hS : va_S A s.heap s.heap [] := va_S.rf
  have hP : va_P (dC, dI) vwCl [(h0, .inr (12, fM v))] s.heap := hP
  have hl := lv_entry ([.ref h0]) (n := 1) (Nat.le_of_ble_eq_true rfl)
  rw [lg_entry_eq]
  generalize (lg_sl ([.ref h0]) ++ List.replicate (1 - (lg_sl ([.ref h0])).length) Slot.unset).toArray = ls at hl ⊢
  have hl : lv_has ls 1 [(0, .ref h0)] := hl
  refine lv_aload_n hx hb dX12_wipe_0 rfl (lv_at hl 0 rfl) ?_
  refine lv_iconst (v := 0) hx hb dX12_wipe_1 (by decide) ?_
  refine va_put (D := (dC, dI)) (ci := 12) (v := .int 0) (ty := .int) (C := RX12) (T := TX12) (N := 163) hx hb hts iX12_wipe_in12 tyX12 tyX12_ok nmX12 hown hK hP hD hS 0 rfl rfl 0 (by decide) (hts (.fieldLink RX12 348 "OptimaWorksModel" "thrown" "I") (by decide +kernel)) (fun _ h9 => h9) rfl (by decide +kernel) rfl rfl (Nat.le_of_ble_eq_true rfl) dX12_wipe_2 (fun H locs hP hD hS => ?_)
  have hP : va_P (dC, dI) vwCl [(h0, .inr (12, fM (mUp v 0 (.int 0))))] H := hP
  have hD : va_D A [(h0, .inr (12, fM (mUp v 0 (.int 0))))] := hD
  refine lv_aload_n hx hb dX12_wipe_5 rfl (lv_at hl 0 rfl) ?_
  refine lv_iconst (v := 0) hx hb dX12_wipe_6 (by decide) ?_
  refine va_put (D := (dC, dI)) (ci := 12) (v := .int 0) (ty := .int) (C := RX12) (T := TX12) (N := 163) hx hb hts iX12_wipe_in12 tyX12 tyX12_ok nmX12 hown hK hP hD hS 0 rfl rfl 16 (by decide) (hts (.fieldLink RX12 468 "OptimaWorksModel" "taped" "I") (by decide +kernel)) (fun _ h9 => h9) rfl (by decide +kernel) rfl rfl (Nat.le_of_ble_eq_true rfl) dX12_wipe_7 (fun H locs hP hD hS => ?_)
  have hP : va_P (dC, dI) vwCl [(h0, .inr (12, fM (mUp (mUp v 0 (.int 0)) 16 (.int 0))))] H := hP
  have hD : va_D A [(h0, .inr (12, fM (mUp (mUp v 0 (.int 0)) 16 (.int 0))))] := hD
  refine W.widen (k := 0) (n := 0) (by decide +kernel) (by decide +kernel) ?_
  exact W.vret hx hb hr (fun t ht hW => ⟨⟨(mUp (mUp v 0 (.int 0)) 16 (.int 0)), rfl, rfl, by rw [ht]; exact hP, va_K.moved hW.alike hK, hD⟩, hS.F ht⟩) hS.2.2 dX12_wipe_10
def wsX12_fault : List Cond := .code yX12_fault cX12_fault 2 (some .int) :: ([.fieldLink RX12 348 "OptimaWorksModel" "thrown" "I", .fieldLink RX12 820 "OptimaWorksModel" "latest" "I", .fieldLink RX12 47 "OptimaWorksModel" "latestPlace" "I"] ++ wsX120)
theorem dX12_fault_0 : decode cX12_fault 0 = .ok (.aload_n 0, 1) := by decide +kernel
theorem dX12_fault_1 : decode cX12_fault 1 = .ok (.iconst 0, 1) := by decide +kernel
theorem dX12_fault_2 : decode cX12_fault 2 = .ok (.putfield 348, 3) := by decide +kernel
theorem dX12_fault_5 : decode cX12_fault 5 = .ok (.iload_n 1, 1) := by decide +kernel
theorem dX12_fault_6 : decode cX12_fault 6 = .ok (.ifCond .ne 10, 3) := by decide +kernel
theorem dX12_fault_9 : decode cX12_fault 9 = .ok (.aload_n 0, 1) := by decide +kernel
theorem dX12_fault_10 : decode cX12_fault 10 = .ok (.getfield 820, 3) := by decide +kernel
theorem dX12_fault_13 : decode cX12_fault 13 = .ok (.goto 16, 3) := by decide +kernel
theorem dX12_fault_16 : decode cX12_fault 16 = .ok (.iload_n 1, 1) := by decide +kernel
theorem dX12_fault_17 : decode cX12_fault 17 = .ok (.iconst 1, 1) := by decide +kernel
theorem dX12_fault_18 : decode cX12_fault 18 = .ok (.if_icmp .ne 10, 3) := by decide +kernel
theorem dX12_fault_21 : decode cX12_fault 21 = .ok (.aload_n 0, 1) := by decide +kernel
theorem dX12_fault_22 : decode cX12_fault 22 = .ok (.getfield 47, 3) := by decide +kernel
theorem dX12_fault_25 : decode cX12_fault 25 = .ok (.goto 4, 3) := by decide +kernel
theorem dX12_fault_28 : decode cX12_fault 28 = .ok (.iconst (-1), 1) := by decide +kernel
theorem dX12_fault_29 : decode cX12_fault 29 = .ok (.ireturn, 1) := by decide +kernel
theorem iX12_fault_in12 : ∀ w ∈ wsX120, w ∈ wsX12_fault := fun _ h => List.mem_cons_of_mem _ (List.mem_append_right _ h)
set_option maxHeartbeats 4000000 in
set_option maxRecDepth 100000 in
/-- fault(what) -/
theorem c_X12_fault (l : Launch) (dC : Nat → ClassId) (dI : Nat → Nat → Nat) (h0 : Nat) (v : Nat → Value) (x_latest : Int32) (h_latest : v 23 = .int x_latest) (x_latestPlace : Int32) (h_latestPlace : v 24 = .int x_latestPlace) (what : Int32) (sz : Nat) : Met l yX12_fault wsX12_fault ({ frames := 0, cells := 0, slots := 0, locals := 0 }) (va_Pc [.ref h0, .int what] (fun U => U.heap.size = sz ∧ va_P (dC, dI) vwCl [(h0, .inr (12, fM v))] U.heap ∧ va_K (dC, dI) vwCl [] U ∧ va_D (fun _ => True) [(h0, .inr (12, fM v))])) (va_Qi (fun (r : Int32) (w : (Nat → Value)) => r = (if what = 0 then x_latest else if what = 1 then x_latestPlace else -1) ∧ w = mUp v 0 (.int 0)) (fun w t => va_P (dC, dI) vwCl [(h0, .inr (12, fM w))] t.heap ∧ va_K (dC, dI) vwCl [] t ∧ va_D (va_A [(h0, .inr (12, fM v))] sz) [(h0, .inr (12, fM w))]) (va_A [(h0, .inr (12, fM v))] sz)) 0 0 (va_A [(h0, .inr (12, fM v))] sz) := by
  refine Met.ofW (cc := cX12_fault) (maxL := 2) (ret := (some .int)) (by decide) rfl ?_
  intro p e s m args below meth c s₁ B hml hv
  obtain ⟨rfl, hsz, hP, hK, hD0⟩ := hv
  have hx := B.exec
  have hb := B.bytes
  have hr := B.returns
  have hts := atoms_spec (ws := wsX12_fault) B.pre
  have hown : s.vm.findClass RX12 = some m.cls := findClass_of_methodNamed B.named
  have hlocks := B.notSynchronized
  subst hsz
  have hD := hD0.self (sz := s.heap.size)
  generalize hAe : va_A [(h0, .inr (12, fM v))] s.heap.size = A at hD ⊢
  have hA : ∀ q : Nat, s.heap.size ≤ q → A q := fun q h => by rw [← hAe]; exact Or.inr h
  have hS : va_S A s.heap s.heap [] := va_S.rf
  have hP : va_P (dC, dI) vwCl [(h0, .inr (12, fM v))] s.heap := hP
  have hl := lv_entry ([.ref h0, .int what]) (n := 2) (Nat.le_of_ble_eq_true rfl)
  rw [lg_entry_eq]
  generalize (lg_sl ([.ref h0, .int what]) ++ List.replicate (2 - (lg_sl ([.ref h0, .int what])).length) Slot.unset).toArray = ls at hl ⊢
  have hl : lv_has ls 2 [(0, .ref h0), (1, .int what)] := hl
  refine lv_aload_n hx hb dX12_fault_0 rfl (lv_at hl 0 rfl) ?_
  refine lv_iconst (v := 0) hx hb dX12_fault_1 (by decide) ?_
  refine va_put (D := (dC, dI)) (ci := 12) (v := .int 0) (ty := .int) (C := RX12) (T := TX12) (N := 163) hx hb hts iX12_fault_in12 tyX12 tyX12_ok nmX12 hown hK hP hD hS 0 rfl rfl 0 (by decide) (hts (.fieldLink RX12 348 "OptimaWorksModel" "thrown" "I") (by decide +kernel)) (fun _ h9 => h9) rfl (by decide +kernel) rfl rfl (Nat.le_of_ble_eq_true rfl) dX12_fault_2 (fun H locs hP hD hS => ?_)
  have hP : va_P (dC, dI) vwCl [(h0, .inr (12, fM (mUp v 0 (.int 0))))] H := hP
  have hD : va_D A [(h0, .inr (12, fM (mUp v 0 (.int 0))))] := hD
  refine lv_iload_n hx hb dX12_fault_5 rfl (lv_at hl 1 rfl) ?_
  refine lv_if_ne (tgt := 16) hx hb dX12_fault_6 (by decide) (fun c_6 => ?_) (fun c_6 => ?_)
  · refine lv_iload_n hx hb dX12_fault_16 rfl (lv_at hl 1 rfl) ?_
    refine lv_iconst (v := 1) hx hb dX12_fault_17 (by decide) ?_
    refine lv_icmp_ne (tgt := 28) hx hb dX12_fault_18 (by decide) (fun c_18 => ?_) (fun c_18 => ?_)
    · refine lv_iconst (v := (-1)) hx hb dX12_fault_28 (by decide) ?_
      refine W.widen (k := 0) (n := 0) (by decide +kernel) (by decide +kernel) ?_
      exact W.iret (v := (-1)) hx hb hr (fun t ht hW => ⟨⟨(-1), (mUp v 0 (.int 0)), rfl, ⟨by simp [c_6, c_18], rfl⟩, by rw [ht]; exact hP, va_K.moved hW.alike hK, hD⟩, hS.F ht⟩) hS.2.2 dX12_fault_29
    · refine lv_aload_n hx hb dX12_fault_21 rfl (lv_at hl 0 rfl) ?_
      refine va_get (D := (dC, dI)) (ci := 12) (v := .int x_latestPlace) (C := RX12) (T := TX12) (N := 163) hx hb hts iX12_fault_in12 hown hK hP 0 rfl rfl 24 (by decide) (hts (.fieldLink RX12 47 "OptimaWorksModel" "latestPlace" "I") (by decide +kernel)) (fun _ h9 => h9) (congrArg some h_latestPlace) dX12_fault_22 ?_
      refine lv_goto (tgt := 29) hx hb dX12_fault_25 (by decide) ?_
      refine W.widen (k := 0) (n := 0) (by decide +kernel) (by decide +kernel) ?_
      exact W.iret (v := x_latestPlace) hx hb hr (fun t ht hW => ⟨⟨x_latestPlace, (mUp v 0 (.int 0)), rfl, ⟨by simp [c_6, c_18], rfl⟩, by rw [ht]; exact hP, va_K.moved hW.alike hK, hD⟩, hS.F ht⟩) hS.2.2 dX12_fault_29
  · refine lv_aload_n hx hb dX12_fault_9 rfl (lv_at hl 0 rfl) ?_
    refine va_get (D := (dC, dI)) (ci := 12) (v := .int x_latest) (C := RX12) (T := TX12) (N := 163) hx hb hts iX12_fault_in12 hown hK hP 0 rfl rfl 23 (by decide) (hts (.fieldLink RX12 820 "OptimaWorksModel" "latest" "I") (by decide +kernel)) (fun _ h9 => h9) (congrArg some h_latest) dX12_fault_10 ?_
    refine lv_goto (tgt := 29) hx hb dX12_fault_13 (by decide) ?_
    refine W.widen (k := 0) (n := 0) (by decide +kernel) (by decide +kernel) ?_
    exact W.iret (v := x_latest) hx hb hr (fun t ht hW => ⟨⟨x_latest, (mUp v 0 (.int 0)), rfl, ⟨by simp [c_6], rfl⟩, by rw [ht]; exact hP, va_K.moved hW.alike hK, hD⟩, hS.F ht⟩) hS.2.2 dX12_fault_29
def wsX12_isPlace : List Cond := .code yX12_isPlace cX12_isPlace 1 (some .boolean) :: ([])
theorem dX12_isPlace_0 : decode cX12_isPlace 0 = .ok (.iload_n 0, 1) := by decide +kernel
theorem dX12_isPlace_1 : decode cX12_isPlace 1 = .ok (.ifCond .lt 13, 3) := by decide +kernel
theorem dX12_isPlace_4 : decode cX12_isPlace 4 = .ok (.iload_n 0, 1) := by decide +kernel
theorem dX12_isPlace_5 : decode cX12_isPlace 5 = .ok (.bipush 12, 2) := by decide +kernel
theorem dX12_isPlace_7 : decode cX12_isPlace 7 = .ok (.if_icmp .ge 7, 3) := by decide +kernel
theorem dX12_isPlace_10 : decode cX12_isPlace 10 = .ok (.iconst 1, 1) := by decide +kernel
theorem dX12_isPlace_11 : decode cX12_isPlace 11 = .ok (.goto 4, 3) := by decide +kernel
theorem dX12_isPlace_14 : decode cX12_isPlace 14 = .ok (.iconst 0, 1) := by decide +kernel
theorem dX12_isPlace_15 : decode cX12_isPlace 15 = .ok (.ireturn, 1) := by decide +kernel
set_option maxHeartbeats 4000000 in
set_option maxRecDepth 100000 in
/-- isPlace(n): 0 .. 11 -/
theorem c_X12_isPlace (l : Launch) (dC : Nat → ClassId) (dI : Nat → Nat → Nat)  (n : Int32) (sz : Nat) : Met l yX12_isPlace wsX12_isPlace ({ frames := 0, cells := 0, slots := 0, locals := 0 }) (va_Pc [.int n] (fun U => U.heap.size = sz ∧ va_P (dC, dI) vwCl [] U.heap ∧ va_K (dC, dI) vwCl [] U ∧ va_D (fun _ => True) [])) (va_Qi (fun (r : Int32) (_w : Unit) => r = (if n < 0 then 0 else if n < 12 then 1 else 0) ∧ True) (fun _ t => va_P (dC, dI) vwCl [] t.heap ∧ va_K (dC, dI) vwCl [] t ∧ va_D (va_A [] sz) []) (va_A [] sz)) 0 0 (va_A [] sz) := by
  refine Met.ofW (cc := cX12_isPlace) (maxL := 1) (ret := (some .boolean)) (by decide) rfl ?_
  intro p e s m args below meth c s₁ B hml hv
  obtain ⟨rfl, hsz, hP, hK, hD0⟩ := hv
  have hx := B.exec
  have hb := B.bytes
  have hr := B.returns
  have hts := atoms_spec (ws := wsX12_isPlace) B.pre
  have hown : s.vm.findClass RX12 = some m.cls := findClass_of_methodNamed B.named
  have hlocks := B.notSynchronized
  subst hsz
  have hD := hD0.self (sz := s.heap.size)
  generalize hAe : va_A [] s.heap.size = A at hD ⊢
  have hA : ∀ q : Nat, s.heap.size ≤ q → A q := fun q h => by rw [← hAe]; exact Or.inr h
  have hS : va_S A s.heap s.heap [] := va_S.rf
  have hP : va_P (dC, dI) vwCl [] s.heap := hP
  have hl := lv_entry ([.int n]) (n := 1) (Nat.le_of_ble_eq_true rfl)
  rw [lg_entry_eq]
  generalize (lg_sl ([.int n]) ++ List.replicate (1 - (lg_sl ([.int n])).length) Slot.unset).toArray = ls at hl ⊢
  have hl : lv_has ls 1 [(0, .int n)] := hl
  refine lv_iload_n hx hb dX12_isPlace_0 rfl (lv_at hl 0 rfl) ?_
  refine lv_if_lt (tgt := 14) hx hb dX12_isPlace_1 (by decide) (fun c_1 => ?_) (fun c_1 => ?_)
  · refine lv_iconst (v := 0) hx hb dX12_isPlace_14 (by decide) ?_
    refine W.widen (k := 0) (n := 0) (by decide +kernel) (by decide +kernel) ?_
    exact W.zret (v := 0) hx hb hr rfl (fun t ht hW => ⟨⟨0, (), rfl, ⟨by simp [c_1], trivial⟩, by rw [ht]; exact hP, va_K.moved hW.alike hK, hD⟩, hS.F ht⟩) hS.2.2 dX12_isPlace_15
  · refine lv_iload_n hx hb dX12_isPlace_4 rfl (lv_at hl 0 rfl) ?_
    refine lv_bipush (v := 12) hx hb dX12_isPlace_5 (by decide) ?_
    refine lv_icmp_ge (tgt := 14) hx hb dX12_isPlace_7 (by decide) (fun c_7 => ?_) (fun c_7 => ?_)
    · refine lv_iconst (v := 0) hx hb dX12_isPlace_14 (by decide) ?_
      refine W.widen (k := 0) (n := 0) (by decide +kernel) (by decide +kernel) ?_
      exact W.zret (v := 0) hx hb hr rfl (fun t ht hW => ⟨⟨0, (), rfl, ⟨by simp [c_1, c_7], trivial⟩, by rw [ht]; exact hP, va_K.moved hW.alike hK, hD⟩, hS.F ht⟩) hS.2.2 dX12_isPlace_15
    · refine lv_iconst (v := 1) hx hb dX12_isPlace_10 (by decide) ?_
      refine lv_goto (tgt := 15) hx hb dX12_isPlace_11 (by decide) ?_
      refine W.widen (k := 0) (n := 0) (by decide +kernel) (by decide +kernel) ?_
      exact W.zret (v := 1) hx hb hr rfl (fun t ht hW => ⟨⟨1, (), rfl, ⟨by simp [c_1, c_7], trivial⟩, by rw [ht]; exact hP, va_K.moved hW.alike hK, hD⟩, hS.F ht⟩) hS.2.2 dX12_isPlace_15
def wsX12_isHolder : List Cond := .code yX12_isHolder cX12_isHolder 2 (some .boolean) :: ([.fieldLink RX12 978 "OptimaWorksModel" "holders" "I"] ++ wsX120)
theorem dX12_isHolder_0 : decode cX12_isHolder 0 = .ok (.iload_n 1, 1) := by decide +kernel
theorem dX12_isHolder_1 : decode cX12_isHolder 1 = .ok (.ifCond .lt 15, 3) := by decide +kernel
theorem dX12_isHolder_4 : decode cX12_isHolder 4 = .ok (.iload_n 1, 1) := by decide +kernel
theorem dX12_isHolder_5 : decode cX12_isHolder 5 = .ok (.aload_n 0, 1) := by decide +kernel
theorem dX12_isHolder_6 : decode cX12_isHolder 6 = .ok (.getfield 978, 3) := by decide +kernel
theorem dX12_isHolder_9 : decode cX12_isHolder 9 = .ok (.if_icmp .ge 7, 3) := by decide +kernel
theorem dX12_isHolder_12 : decode cX12_isHolder 12 = .ok (.iconst 1, 1) := by decide +kernel
theorem dX12_isHolder_13 : decode cX12_isHolder 13 = .ok (.goto 4, 3) := by decide +kernel
theorem dX12_isHolder_16 : decode cX12_isHolder 16 = .ok (.iconst 0, 1) := by decide +kernel
theorem dX12_isHolder_17 : decode cX12_isHolder 17 = .ok (.ireturn, 1) := by decide +kernel
theorem iX12_isHolder_in12 : ∀ w ∈ wsX120, w ∈ wsX12_isHolder := fun _ h => List.mem_cons_of_mem _ (List.mem_append_right _ h)
set_option maxHeartbeats 4000000 in
set_option maxRecDepth 100000 in
/-- isHolder(i) -/
theorem c_X12_isHolder (l : Launch) (dC : Nat → ClassId) (dI : Nat → Nat → Nat) (h0 : Nat) (v : Nat → Value) (x_holders : Int32) (h_holders : v 128 = .int x_holders) (i : Int32) (sz : Nat) : Met l yX12_isHolder wsX12_isHolder ({ frames := 0, cells := 0, slots := 0, locals := 0 }) (va_Pc [.ref h0, .int i] (fun U => U.heap.size = sz ∧ va_P (dC, dI) vwCl [(h0, .inr (12, fM v))] U.heap ∧ va_K (dC, dI) vwCl [] U ∧ va_D (fun _ => True) [(h0, .inr (12, fM v))])) (va_Qi (fun (r : Int32) (w : (Nat → Value)) => r = (if i < 0 then 0 else if i < x_holders then 1 else 0) ∧ w = v) (fun w t => va_P (dC, dI) vwCl [(h0, .inr (12, fM w))] t.heap ∧ va_K (dC, dI) vwCl [] t ∧ va_D (va_A [(h0, .inr (12, fM v))] sz) [(h0, .inr (12, fM w))]) (va_A [(h0, .inr (12, fM v))] sz)) 0 0 (va_A [(h0, .inr (12, fM v))] sz) := by
  refine Met.ofW (cc := cX12_isHolder) (maxL := 2) (ret := (some .boolean)) (by decide) rfl ?_
  intro p e s m args below meth c s₁ B hml hv
  obtain ⟨rfl, hsz, hP, hK, hD0⟩ := hv
  have hx := B.exec
  have hb := B.bytes
  have hr := B.returns
  have hts := atoms_spec (ws := wsX12_isHolder) B.pre
  have hown : s.vm.findClass RX12 = some m.cls := findClass_of_methodNamed B.named
  have hlocks := B.notSynchronized
  subst hsz
  have hD := hD0.self (sz := s.heap.size)
  generalize hAe : va_A [(h0, .inr (12, fM v))] s.heap.size = A at hD ⊢
  have hA : ∀ q : Nat, s.heap.size ≤ q → A q := fun q h => by rw [← hAe]; exact Or.inr h
  have hS : va_S A s.heap s.heap [] := va_S.rf
  have hP : va_P (dC, dI) vwCl [(h0, .inr (12, fM v))] s.heap := hP
  have hl := lv_entry ([.ref h0, .int i]) (n := 2) (Nat.le_of_ble_eq_true rfl)
  rw [lg_entry_eq]
  generalize (lg_sl ([.ref h0, .int i]) ++ List.replicate (2 - (lg_sl ([.ref h0, .int i])).length) Slot.unset).toArray = ls at hl ⊢
  have hl : lv_has ls 2 [(0, .ref h0), (1, .int i)] := hl
  refine lv_iload_n hx hb dX12_isHolder_0 rfl (lv_at hl 1 rfl) ?_
  refine lv_if_lt (tgt := 16) hx hb dX12_isHolder_1 (by decide) (fun c_1 => ?_) (fun c_1 => ?_)
  · refine lv_iconst (v := 0) hx hb dX12_isHolder_16 (by decide) ?_
    refine W.widen (k := 0) (n := 0) (by decide +kernel) (by decide +kernel) ?_
    exact W.zret (v := 0) hx hb hr rfl (fun t ht hW => ⟨⟨0, (v), rfl, ⟨by simp [c_1], rfl⟩, by rw [ht]; exact hP, va_K.moved hW.alike hK, hD⟩, hS.F ht⟩) hS.2.2 dX12_isHolder_17
  · refine lv_iload_n hx hb dX12_isHolder_4 rfl (lv_at hl 1 rfl) ?_
    refine lv_aload_n hx hb dX12_isHolder_5 rfl (lv_at hl 0 rfl) ?_
    refine va_get (D := (dC, dI)) (ci := 12) (v := .int x_holders) (C := RX12) (T := TX12) (N := 163) hx hb hts iX12_isHolder_in12 hown hK hP 0 rfl rfl 128 (by decide) (hts (.fieldLink RX12 978 "OptimaWorksModel" "holders" "I") (by decide +kernel)) (fun _ h9 => h9) (congrArg some h_holders) dX12_isHolder_6 ?_
    refine lv_icmp_ge (tgt := 16) hx hb dX12_isHolder_9 (by decide) (fun c_9 => ?_) (fun c_9 => ?_)
    · refine lv_iconst (v := 0) hx hb dX12_isHolder_16 (by decide) ?_
      refine W.widen (k := 0) (n := 0) (by decide +kernel) (by decide +kernel) ?_
      exact W.zret (v := 0) hx hb hr rfl (fun t ht hW => ⟨⟨0, (v), rfl, ⟨by simp [c_1, c_9], rfl⟩, by rw [ht]; exact hP, va_K.moved hW.alike hK, hD⟩, hS.F ht⟩) hS.2.2 dX12_isHolder_17
    · refine lv_iconst (v := 1) hx hb dX12_isHolder_12 (by decide) ?_
      refine lv_goto (tgt := 17) hx hb dX12_isHolder_13 (by decide) ?_
      refine W.widen (k := 0) (n := 0) (by decide +kernel) (by decide +kernel) ?_
      exact W.zret (v := 1) hx hb hr rfl (fun t ht hW => ⟨⟨1, (v), rfl, ⟨by simp [c_1, c_9], rfl⟩, by rw [ht]; exact hP, va_K.moved hW.alike hK, hD⟩, hS.F ht⟩) hS.2.2 dX12_isHolder_17
end
section
/-! ===== BEGIN exceptions that leave a method, and their catching by the caller (launches without stack traces) ===== -/
section VXA
/-! The laws vx_back, vx_callV, vx_callS, vx_callSW, vx_throw0, vx_throwS follow proofs of the library, with one case more: JvmDerived/Free/Laws.lean (Back.of_free), Shelf42/LK1.lean (callV, callS), Shelf/KitTraced.lean (throwNew0V, throwNewS). -/

/-- where a method has thrown q: the class by its name, the cell, what was written, the world -/
def vx_T (XC : String → State → State → Prop) (st : State) (q : Addr) (t : State) (mc ms : Nat) (free : Addr → Prop) : Prop :=
  ∃ (E : String) (ce : Cell) (L : List Loc), XC E st t ∧ t.heap[q]? = some ce ∧ ce.vm = .none ∧ st.vm.findClass E = some ce.cls ∧ st.WarmedH t.vm ∧ st.sameButNew ({ t with vm := st.vm } : State) L mc ms ∧ ∀ z ∈ L, free z.base
def vx_Q (Qc : Array Value → State → Outcome → State → Prop) (XC : String → State → State → Prop) (mc ms : Nat) (free : Addr → Prop) : Array Value → State → Outcome → State → Prop := fun a st o t =>
  (Qc a st o t ∧ ∃ L, FrameEnd st o t L mc ms ∧ ∀ q ∈ L, free q.base) ∨ ∃ q, o = .threw q ∧ vx_T XC st q t mc ms free
/-- a callee that returns or throws -/
def vx_Met (l : Launch) (y : MethodName) (ws : List Cond) (rm : Room) (Pc : Array Value → State → Prop) (Qc : Array Value → State → Outcome → State → Prop) (XC : String → State → State → Prop) (mc ms : Nat) (free : Addr → Prop) : Prop :=
  MetFree l y (headSpec ws rm) Pc (fun _ _ _ _ _ => True) (vx_Q Qc XC mc ms free)
def vx_Post (XC : String → State → State → Prop) (mc ms : Nat) (free : Addr → Prop) : Pt → Array Value → Addr → Pt → Prop := fun A a q B =>
  ∃ (g : JFrame) (mk : MethodId) (t : State) (L : List Loc) (E : String) (ce : Cell), B.U.heap = t.heap ∧ B.U.vm = t.vm ∧ XC E (A.U.calling g mk a) t ∧ t.heap[q]? = some ce ∧ ce.vm = .none ∧ A.U.vm.findClass E = some ce.cls ∧ B.locs = A.locs ++ L ∧ (∀ z ∈ L, free z.base) ∧ B.cells = A.cells + mc ∧ B.slots = A.slots + ms
def vx_Back (l : Launch) (R : Room) (p : Program) (e : Env) (below : List Frame) (s : State) (sargs : Array Value) (y : MethodName) (len W9 : Nat)
    (Pre : Pt → Array Value → Prop) (Post : Pt → Array Value → Option Value → Pt → Prop) (PostX : Pt → Array Value → Addr → Pt → Prop) : Prop :=
  ∀ (m : MethodId) (meth : Method) (c : Code) (A : Pt) (g : JFrame) (ig : Instr) (mk : MethodId) (a : Array Value),
    Stand p l e R s m sargs below meth c A.U A.locs A.cells A.slots → g.method = m → g.locals.size = c.maxLocals → decode c.code g.pc = .ok (ig, len) →
    2 * g.monitorRoom + (g.stack.map fun v => v.category).sum ≤ W9 → A.U.methodNamed? y = some mk → Pre A a →
    (∃ (v : Option Value) (B : Pt), Stand p l e R s m sargs below meth c B.U B.locs B.cells B.slots ∧ Post A a v B ∧
      Steps p.tables e below (doInvoke e (A.U.setTop g) [] mk a).1 (B.U.setTop { g with pc := g.pc + len, stack := v.toList ++ g.stack })) ∨
    (∃ (q : Addr) (B : Pt), Stand p l e R s m sargs below meth c B.U B.locs B.cells B.slots ∧ PostX A a q B ∧
      Steps p.tables e below (doInvoke e (A.U.setTop g) [] mk a).1 ((B.U.setTop g).pushFrame (.throwing q)))
section Payer
variable {l : Launch} {R : Room} {p : Program} {e : Env} {below : List Frame} {s : State} {sargs : Array Value} {y : MethodName} {len W9 : Nat}
theorem vx_back {ws : List Cond} {rm : Room} {Pc : Array Value → State → Prop} {Qc : Array Value → State → Outcome → State → Prop} {XC : String → State → State → Prop} {mc ms : Nat} {free : Addr → Prop} {bytes : ByteArray} {maxL : Nat} {ret : Option FieldType}
    (hM : vx_Met l y ws rm Pc Qc XC mc ms free) (hblind : FrameBlind Pc) (hrc : rm.cells = mc) (hrs : rm.slots = ms)
    (hframes : rm.frames + 1 ≤ R.frames) (hlocals : W9 + (maxL + 11) + rm.locals ≤ R.locals)
    (hws : ∀ w ∈ ws, ∀ a' U, s.WarmedH U.vm → w.before a' U = true) (hcode : Cond.code y bytes maxL ret ∈ ws) (hinit : ∀ a' U, s.WarmedH U.vm → (Cond.initialized y.cls).before a' U = true) :
    vx_Back l R p e below s sargs y len W9 (PreOf R mc ms Pc) (PostOf Qc mc ms free) (vx_Post XC mc ms free) := by
  intro m meth c A g ig mk a X hg hsize hdg hW hn hp
  have h1 : (headSpec ws rm).pre.before a A.U = true := atoms_intro fun w hw => hws w hw _ _ X.warmed
  have h2 : (Cond.code y bytes maxL ret).before a A.U = true := hws _ hcode _ _ X.warmed
  have h3 : (Cond.initialized y.cls).before a A.U = true := hinit _ _ X.warmed
  have h4 : A.cells + (headSpec ws rm).room.cells ≤ R.cells := by rw [show (headSpec ws rm).room.cells = mc from hrc]; exact hp.1
  have h5 : A.slots + (headSpec ws rm).room.slots ≤ R.slots := by rw [show (headSpec ws rm).room.slots = ms from hrs]; exact hp.2.1
  have hPc : Pc a (A.U.calling g mk a) := hblind _ _ _ _ hp.2.2
  obtain ⟨U, Ls, c0, s0⟩ := A
  dsimp only [Pt.U, Pt.locs, Pt.cells, Pt.slots] at h1 h2 h3 h4 h5 X hn hPc ⊢
  obtain ⟨methY, cY, hmY, hcY, -, hlY, -, -, -, -⟩ := Cond.code_spec hn h2
  obtain ⟨kY, hkY, -⟩ := className_of_methodNamed hn
  have hinitY : kY.init = .initialized := Cond.initialized_spec (findClass_of_methodNamed hn) hkY h3
  have h : At U g.method c below := by rw [hg]; exact X.here
  have hlocals9 : W9 + (maxL + 11) + (headSpec ws rm).room.locals ≤ R.locals := hlocals
  have happ : (headSpec ws rm).appliesLoose y e.platform (U.calling g mk a) = true :=
    Spec.appliesLoose_calling (g := g) h hdg hn hkY hinitY
      (X.room_calling (g := g) (R' := (headSpec ws rm).room) hsize hmY hcY hframes (by rw [hlY]; omega) h4 h5) h1
  obtain ⟨mid, hmid⟩ := h.above
  have hfr : (U.setTop g).frames = (.java g :: mid) ++ below := by rw [State.frames_setTop' g h.top, hmid]; rfl
  obtain ⟨o, s₂, hsteps, -, hend, hq⟩ := Steps.callFree hM p X.admits X.cas X.clock (acts := []) hfr happ hPc trivial
  have hq' : vx_Q Qc XC mc ms free a (U.calling g mk a) o s₂ := hq
  rw [State.frames_setTop' g h.top] at hend
  obtain ⟨g₀, hg0⟩ := Option.isSome_iff_exists.mp h.top
  obtain ⟨r, hr⟩ := State.topJava?_eq_some.mp hg0
  have hr' : (({ U with heap := s₂.heap, slotsUsed := s₂.slotsUsed } : State).setVm s₂.vm).frames = .java g₀ :: r := hr
  rcases hq' with ⟨hqc, L, hfe, hL⟩ | ⟨q, rfl, E, ce, L, hx, hce, hcv, hcl, hW₂, hsm, hL⟩
  · obtain ⟨⟨v, rfl⟩, hW₂, e2, q2, q3, q4, q5, q6⟩ := id hfe
    have e3 : s₂ = ({ (U.calling g mk a).setFrames s₂.frames with heap := s₂.heap, slotsUsed := s₂.slotsUsed } : State).setVm s₂.vm := by
      have : s₂ = ({ s₂ with vm := (U.calling g mk a).vm } : State).setVm s₂.vm := rfl
      rw [e2] at this
      exact this
    obtain ⟨c₂, i₂, len₂, hc₂, hd₂, hf₂⟩ := hend
    have hW' : U.WarmedH s₂.vm := hW₂
    have hcc : c₂ = c := by
      have h1 : s₂.code? g.method = U.code? g.method := by
        rw [State.code?_eq, State.code?_eq, hW'.alike.method?]
      exact Option.some.inj (hc₂.symm.trans (h1.trans h.code))
    subst hcc
    have hlen : len₂ = len := by rw [hdg] at hd₂; cases hd₂; rfl
    subst hlen
    have hs₂ : s₂ = (({ U with heap := s₂.heap, slotsUsed := s₂.slotsUsed } : State).setVm s₂.vm).setTop { g with pc := g.pc + len₂, stack := v.toList ++ g.stack } := by
      refine e3.trans ?_
      rw [hf₂, State.calling_eq h.top, State.setFrames_setFrames, State.setTop_of_frames _ hr', hr]
      rfl
    have hsame : U.sameButNew ({ U with heap := s₂.heap, slotsUsed := s₂.slotsUsed } : State) L mc ms := by
      refine ⟨?_, q2, q3, q4, q5, q6⟩
      obtain ⟨t, ht, -⟩ := State.frames_cons hr
      show ({ U with heap := s₂.heap, slotsUsed := s₂.slotsUsed } : State) = { U.setFrames U.frames with heap := s₂.heap, slotsUsed := s₂.slotsUsed }
      rw [State.setFrames_self ht]
    subst hg
    refine Or.inl ⟨v, ⟨(({ U with heap := s₂.heap, slotsUsed := s₂.slotsUsed } : State).setVm s₂.vm), Ls ++ L, c0 + mc, s0 + ms⟩,
      ⟨X.admits, X.cas, X.clock, X.frames, X.room, X.hears, X.method, X.code, (X.here.setHeapUsed s₂.heap s₂.slotsUsed).setVm hW'.alike, X.tail, State.WarmedH.trans X.warmed hW', X.limits, X.bytes, X.same.trans (hsame.setVm s.vm)⟩,
      ⟨g, mk, s₂, L, rfl, rfl, hqc, rfl, hL, rfl, rfl⟩, ?_⟩
    show Steps p.tables e below _ ((({ U with heap := s₂.heap, slotsUsed := s₂.slotsUsed } : State).setVm s₂.vm).setTop { g with pc := g.pc + len₂, stack := v.toList ++ g.stack })
    rw [← hs₂]
    exact hsteps
  · obtain ⟨e2, q2, q3, q4, q5, q6⟩ := id hsm
    have e3 : s₂ = ({ (U.calling g mk a).setFrames s₂.frames with heap := s₂.heap, slotsUsed := s₂.slotsUsed } : State).setVm s₂.vm := by
      have : s₂ = ({ s₂ with vm := (U.calling g mk a).vm } : State).setVm s₂.vm := rfl
      rw [e2] at this
      exact this
    have hf₂ : s₂.frames = .throwing q :: .java g :: U.frames.tail := hend
    have hW' : U.WarmedH s₂.vm := hW₂
    have hs₂ : s₂ = ((({ U with heap := s₂.heap, slotsUsed := s₂.slotsUsed } : State).setVm s₂.vm).setTop g).pushFrame (.throwing q) := by
      refine e3.trans ?_
      rw [hf₂, State.calling_eq h.top, State.setFrames_setFrames, State.pushFrame, State.frames_setTop _ hr', State.setTop_of_frames _ hr', State.setFrames_setFrames, hr]
      rfl
    have hsame : U.sameButNew ({ U with heap := s₂.heap, slotsUsed := s₂.slotsUsed } : State) L mc ms := by
      refine ⟨?_, q2, q3, q4, q5, q6⟩
      obtain ⟨t, ht, -⟩ := State.frames_cons hr
      show ({ U with heap := s₂.heap, slotsUsed := s₂.slotsUsed } : State) = { U.setFrames U.frames with heap := s₂.heap, slotsUsed := s₂.slotsUsed }
      rw [State.setFrames_self ht]
    subst hg
    refine Or.inr ⟨q, ⟨(({ U with heap := s₂.heap, slotsUsed := s₂.slotsUsed } : State).setVm s₂.vm), Ls ++ L, c0 + mc, s0 + ms⟩,
      ⟨X.admits, X.cas, X.clock, X.frames, X.room, X.hears, X.method, X.code, (X.here.setHeapUsed s₂.heap s₂.slotsUsed).setVm hW'.alike, X.tail, State.WarmedH.trans X.warmed hW', X.limits, X.bytes, X.same.trans (hsame.setVm s.vm)⟩,
      ⟨g, mk, s₂, L, E, ce, rfl, rfl, hx, hce, hcv, hcl, rfl, hL, rfl, rfl⟩, ?_⟩
    show Steps p.tables e below _ (((({ U with heap := s₂.heap, slotsUsed := s₂.slotsUsed } : State).setVm s₂.vm).setTop g).pushFrame (.throwing q))
    rw [← hs₂]
    exact hsteps
end Payer
section Calls
variable {p : Program} {l : Launch} {e : Env} {R : Room} {s : State} {m : MethodId} {args : Array Value} {below : List Frame} {meth : Method} {c : Code} {T : State} {locs : List Loc} {cells slots : Nat}
theorem vx_callV (X : Stand p l e R s m args below meth c T locs cells slots) (hexec : p.tables.exec = Jvm.exec) {own C : String} {index : Nat} {y : MethodName} {bytes : ByteArray} {maxL : Nat} {ret : Option FieldType}
    (hown : s.vm.findClass own = some m.cls) (hlink : (Cond.methodLink own index y).before args s = true) (hinst : (Cond.instanceMethod y).before args s = true) (hsel : (Cond.selects C y y).before args s = true)
    (hcode : (Cond.code y bytes maxL ret).before args s = true) (hy : y.cls ≠ "java/lang/invoke/MethodHandle" ∧ y.cls ≠ "java/lang/invoke/VarHandle")
    {W9 : Nat} {Pre : Pt → Array Value → Prop} {Post : Pt → Array Value → Option Value → Pt → Prop} {PostX : Pt → Array Value → Addr → Pt → Prop} (hK : vx_Back l R p e below s args y 3 W9 Pre Post PostX)
    {b : Addr} {cellB : Cell} (hcell : T.heap[b]? = some cellB) (hobj : cellB.vm.isStatics = false) (hcls : s.vm.findClass C = some cellB.cls)
    {g : JFrame} (hg : g.method = m) (hsize : g.locals.size = c.maxLocals) {argsL rest : List Value} (hlen : ∀ sig, parseMethodDescriptor y.desc = some sig → argsL.length = sig.parameters.length)
    (hstack : g.stack = argsL.reverse ++ .ref b :: rest) (hW : 2 * g.monitorRoom + (rest.map fun v => v.category).sum ≤ W9) (hdg : decode c.code g.pc = .ok (.invokevirtual index, 3))
    (hpre : ∀ vm₁, s.WarmedH vm₁ → Pre ⟨T.setVm vm₁, locs, cells, slots⟩ (Value.ref b :: argsL).toArray) :
    (∃ (v : Option Value) (vm₁ : Vm) (B : Pt), s.WarmedH vm₁ ∧ Stand p l e R s m args below meth c B.U B.locs B.cells B.slots ∧ Post ⟨T.setVm vm₁, locs, cells, slots⟩ (Value.ref b :: argsL).toArray v B ∧
      ∀ target, Steps p.tables e below (B.U.setTop { g with pc := g.pc + 3, stack := v.toList ++ rest }) target → Steps p.tables e below (T.setTop g) target) ∨
    (∃ (q : Addr) (vm₁ : Vm) (B : Pt), s.WarmedH vm₁ ∧ Stand p l e R s m args below meth c B.U B.locs B.cells B.slots ∧ PostX ⟨T.setVm vm₁, locs, cells, slots⟩ (Value.ref b :: argsL).toArray q B ∧
      Steps p.tables e below (T.setTop g) ((B.U.setTop { g with stack := rest }).pushFrame (.throwing q))) := by
  obtain ⟨mk, methM, hnamed, hmethM, hstM, habM⟩ := Cond.instanceMethod_spec hinst
  obtain ⟨methM', cM, hmethM', -, -, -, -, -, -, hsigM⟩ := Cond.code_spec hnamed hcode
  cases hmethM.symm.trans hmethM'
  obtain ⟨c2, r2, m2, q1, q2, q3, q4, kP, hkP, hkPi⟩ := Cond.selects_spec hsel
  cases hcls.symm.trans q1
  cases (State.methodFound?_of_named hnamed hy).symm.trans q2
  cases hnamed.symm.trans q3
  have hselP : selectMethod e.platform s.vm cellB.cls mk = .method mk := by rw [Launch.admits_selectMethod X.admits]; exact q4
  obtain ⟨vm₁, X₁, hstep₁⟩ := X.invokevirtual hexec hown hlink hnamed hmethM hstM hkP hkPi hy (a := b) (cell := cellB) hcell
    (fun z h => by rw [h] at hobj; cases hobj) hselP hmethM habM hkP hkPi (g := g) hg (argsL := argsL) (rest := rest) (hlen _ hsigM) hstack hdg
  rcases hK m meth c ⟨T.setVm vm₁, locs, cells, slots⟩ { g with stack := rest } (.invokevirtual index) mk (Value.ref b :: argsL).toArray X₁ hg hsize hdg hW (X₁.named hnamed) (hpre vm₁ X₁.warmed) with ⟨v, B, X', hpost, hsteps⟩ | ⟨q, B, X', hpost, hsteps⟩
  · exact Or.inl ⟨v, vm₁, B, X₁.warmed, X', hpost, fun target h => hstep₁ _ fun acts => by rw [doInvoke_state]; exact hsteps.trans h⟩
  · exact Or.inr ⟨q, vm₁, B, X₁.warmed, X', hpost, hstep₁ _ fun acts => by rw [doInvoke_state]; exact hsteps⟩
theorem vx_callS (X : Stand p l e R s m args below meth c T locs cells slots) (hexec : p.tables.exec = Jvm.exec) {own : String} {index : Nat} {y : MethodName} {bytes : ByteArray} {maxL : Nat} {ret : Option FieldType}
    (hown : s.vm.findClass own = some m.cls) (hlink : (Cond.methodLink own index y).before args s = true) (hstat : (Cond.static y).before args s = true) (hinit : (Cond.initialized y.cls).before args s = true)
    (hcode : (Cond.code y bytes maxL ret).before args s = true) (hy : y.cls ≠ "java/lang/invoke/MethodHandle" ∧ y.cls ≠ "java/lang/invoke/VarHandle")
    {W9 : Nat} {Pre : Pt → Array Value → Prop} {Post : Pt → Array Value → Option Value → Pt → Prop} {PostX : Pt → Array Value → Addr → Pt → Prop} (hK : vx_Back l R p e below s args y 3 W9 Pre Post PostX)
    {g : JFrame} (hg : g.method = m) (hsize : g.locals.size = c.maxLocals) {argsL rest : List Value} (hlen : ∀ sig, parseMethodDescriptor y.desc = some sig → argsL.length = sig.parameters.length)
    (hstack : g.stack = argsL.reverse ++ rest) (hW : 2 * g.monitorRoom + (rest.map fun v => v.category).sum ≤ W9) (hdg : decode c.code g.pc = .ok (.invokestatic index, 3))
    (hpre : ∀ vm₁, s.WarmedH vm₁ → Pre ⟨T.setVm vm₁, locs, cells, slots⟩ argsL.toArray) :
    (∃ (v : Option Value) (vm₁ : Vm) (B : Pt), s.WarmedH vm₁ ∧ Stand p l e R s m args below meth c B.U B.locs B.cells B.slots ∧ Post ⟨T.setVm vm₁, locs, cells, slots⟩ argsL.toArray v B ∧
      ∀ target, Steps p.tables e below (B.U.setTop { g with pc := g.pc + 3, stack := v.toList ++ rest }) target → Steps p.tables e below (T.setTop g) target) ∨
    (∃ (q : Addr) (vm₁ : Vm) (B : Pt), s.WarmedH vm₁ ∧ Stand p l e R s m args below meth c B.U B.locs B.cells B.slots ∧ PostX ⟨T.setVm vm₁, locs, cells, slots⟩ argsL.toArray q B ∧
      Steps p.tables e below (T.setTop g) ((B.U.setTop { g with stack := rest }).pushFrame (.throwing q))) := by
  obtain ⟨mk, hnamed⟩ := Cond.code_named hcode
  obtain ⟨methM, cM, hmethM, -, -, -, -, -, -, hsigM⟩ := Cond.code_spec hnamed hcode
  have hstatic : methM.isStatic = true := Cond.static_spec hnamed hmethM hstat
  obtain ⟨kP, hkP, -⟩ := className_of_methodNamed hnamed
  have hinitP : kP.init = .initialized := Cond.initialized_spec (findClass_of_methodNamed hnamed) hkP hinit
  obtain ⟨vm₁, X₁, hstep₁⟩ := X.invokestatic hexec hown hlink hnamed hmethM hstatic hkP hinitP hy (g := g) hg (argsL := argsL) (rest := rest) (hlen _ hsigM) hstack hdg
  rcases hK m meth c ⟨T.setVm vm₁, locs, cells, slots⟩ { g with stack := rest } (.invokestatic index) mk argsL.toArray X₁ hg hsize hdg hW (X₁.named hnamed) (hpre vm₁ X₁.warmed) with ⟨v, B, X', hpost, hsteps⟩ | ⟨q, B, X', hpost, hsteps⟩
  · exact Or.inl ⟨v, vm₁, B, X₁.warmed, X', hpost, fun target h => hstep₁ _ fun acts => by rw [doInvoke_state]; exact hsteps.trans h⟩
  · exact Or.inr ⟨q, vm₁, B, X₁.warmed, X', hpost, hstep₁ _ fun acts => by rw [doInvoke_state]; exact hsteps⟩
end Calls
theorem vx_cls {s : State} {T : State} {vm₁ : Vm} {E : String} {k : ClassId} (hW : s.WarmedH vm₁) (h : (T.setVm vm₁).vm.findClass E = some k) : s.vm.findClass E = some k := by
  have h1 : vm₁.findClass E = some k := h
  rw [hW.alike.findClass] at h1
  exact h1
/-- the method's frame g, with q thrown over it -/
def vx_W (p : Program) (l : Launch) (e : Env) (R : Room) (s : State) (m : MethodId) (args : Array Value) (below : List Frame) (meth : Method) (c : Code) (H : Heap) (locs : List Loc) (cells slots : Nat) (Q : State → Prop) (g : JFrame) (q : Addr) : Prop :=
  ∀ T : State, T.heap = H → Stand p l e R s m args below meth c T locs cells slots → ∃ t, Steps p.tables e below ((T.setTop g).pushFrame (.throwing q)) t ∧ Q t
def vx_Run (p : Program) (l : Launch) (e : Env) (R : Room) (s : State) (m : MethodId) (args : Array Value) (below : List Frame) (meth : Method) (c : Code) (H : Heap) (locs : List Loc) (cells slots mc ms : Nat) (g : JFrame) (rest : List Value) (Qa : State → Outcome → State → Prop) (XC : String → State → State → Prop) (free : Addr → Prop) : Prop :=
  ∀ T : State, T.heap = H → Stand p l e R s m args below meth c T locs cells slots →
    (∃ (v : Option Value) (st₀ t T' : State) (L : List Loc), st₀.heap = H ∧ Stand p l e R s m args below meth c T' (locs ++ L) (cells + mc) (slots + ms) ∧ (∀ q ∈ L, free q.base) ∧ T'.heap = t.heap ∧ T'.vm = t.vm ∧ Qa st₀ (.returned v) t ∧
      Goes p e below T g T' { g with pc := g.pc + 3, stack := v.toList ++ rest }) ∨
    (∃ (q : Addr) (st₀ t T' : State) (L : List Loc) (E : String) (ce : Cell), st₀.heap = H ∧ Stand p l e R s m args below meth c T' (locs ++ L) (cells + mc) (slots + ms) ∧ (∀ z ∈ L, free z.base) ∧ T'.heap = t.heap ∧ T'.vm = t.vm ∧ XC E st₀ t ∧ t.heap[q]? = some ce ∧ ce.vm = .none ∧ s.vm.findClass E = some ce.cls ∧
      Steps p.tables e below (T.setTop g) ((T'.setTop { g with stack := rest }).pushFrame (.throwing q)))
def vx_X {S : Type} (px : S → Prop) (B : String → S → State → Prop) (A : Nat → Prop) : String → State → State → Prop := fun E st t => ∃ u : S, px u ∧ B E u t ∧ va_F A st t
section Runs
variable {p : Program} {l : Launch} {e : Env} {R : Room} {s : State} {m : MethodId} {args : Array Value} {below : List Frame} {meth : Method} {c : Code} {H : Heap} {locs : List Loc} {cells slots : Nat}
variable {y : MethodName} {bytes cc : ByteArray} {maxL nL mc ms n index : Nat} {ret : Option FieldType} {ws : List Cond} {rm : Room} {Pc : Array Value → State → Prop} {Qc : Array Value → State → Outcome → State → Prop} {XC : String → State → State → Prop} {free : Addr → Prop} {Ts : List Cond} {own C : String} {b : Addr} {As rest : List Value} {g : JFrame}
theorem vx_callBack (cb : CallB R s args own index y bytes maxL ret ws rm mc ms n) (hM : vx_Met l y ws rm Pc Qc XC mc ms free) (hbl : FrameBlind Pc) : vx_Back l R p e below s args y 3 8 (PreOf R mc ms Pc) (PostOf Qc mc ms free) (vx_Post XC mc ms free) := by
  obtain ⟨hrc, hrs, hfr, hlo, hws, hcw, -, hini, -⟩ := cb
  exact vx_back (bytes := bytes) (maxL := maxL) (ret := ret) hM hbl hrc hrs hfr hlo hws hcw (fun a' U hW => word_at hW (Or.inl (by first | rfl | simp [Cond.onTables, Cond.keeps, Cond.steady])) hini)
theorem vx_runV (S : CallFix p m c cc nL s args Ts own) (hM : vx_Met l y ws rm Pc Qc XC mc ms free) (cw : CallW R s args own C index y bytes maxL ret ws rm mc ms n) (hp : PreV s H C b Pc As)
    (hg : g.method = m) (hn : As.length = n) (hsize : g.locals.size = nL) (hstack : g.stack = As.reverse ++ .ref b :: rest) (hW : 2 * g.monitorRoom + (rest.map fun v => v.category).sum ≤ 8) (hdg : decode cc g.pc = .ok (.invokevirtual index, 3)) (hf : cells + mc ≤ R.cells ∧ slots + ms ≤ R.slots) :
    vx_Run p l e R s m args below meth c H locs cells slots mc ms g rest (Qc (Value.ref b :: As).toArray) XC free := by
  have hK : vx_Back l R p e below s args y 3 8 (PreOf R mc ms Pc) (PostOf Qc mc ms free) (vx_Post XC mc ms free) := vx_callBack cw.1 hM hp.1
  obtain ⟨⟨-, -, -, -, -, -, hcode, -, hy, hlen, hl⟩, hin, hse⟩ := cw
  obtain ⟨hx, hb, hml, ho, -⟩ := S
  obtain ⟨-, ⟨cellB, hcB, hoB, hclB⟩, hPc⟩ := hp
  intro T hT X
  rcases vx_callV X hx (C := C) (bytes := bytes) (maxL := maxL) (ret := ret) ho hl hin hse hcode hy hK (by rw [hT]; exact hcB) hoB hclB hg (hsize.trans hml.symm) (argsL := As) (rest := rest) (fun sig h => hn.trans (hlen sig h)) hstack hW (by rw [hb]; exact hdg)
    (fun vm₁ hW₁ => ⟨hf.1, hf.2, hPc (T.setVm vm₁) hT hW₁⟩) with ⟨v, vm₁, ⟨U', l2, c2, s2⟩, hW₁, X', ⟨g', mk, t, L, e1, e2, hq, h1, hL, h2, h3⟩, st⟩ | ⟨q, vm₁, ⟨U', l2, c2, s2⟩, hW₁, X', ⟨g', mk, t, L, E, ce, e1, e2, hq, hce, hcv, hcl, h1, hL, h2, h3⟩, st⟩
  · dsimp only [Pt.U, Pt.locs, Pt.cells, Pt.slots] at X' e1 e2 h1 h2 h3 st
    subst h1; subst h2; subst h3
    exact Or.inl ⟨v, (T.setVm vm₁).calling g' mk (Value.ref b :: As).toArray, t, U', L, hT, X', hL, e1, e2, hq, st⟩
  · dsimp only [Pt.U, Pt.locs, Pt.cells, Pt.slots] at X' e1 e2 h1 h2 h3 st hcl
    subst h1; subst h2; subst h3
    exact Or.inr ⟨q, (T.setVm vm₁).calling g' mk (Value.ref b :: As).toArray, t, U', L, E, ce, hT, X', hL, e1, e2, hq, hce, hcv, vx_cls hW₁ hcl, st⟩
theorem vx_runS (S : CallFix p m c cc nL s args Ts own) (hM : vx_Met l y ws rm Pc Qc XC mc ms free) (cw : CallB R s args own index y bytes maxL ret ws rm mc ms n ∧ (Cond.static y).before args s = true) (hp : PreS s H Pc As)
    (hg : g.method = m) (hn : As.length = n) (hsize : g.locals.size = nL) (hstack : g.stack = As.reverse ++ rest) (hW : 2 * g.monitorRoom + (rest.map fun v => v.category).sum ≤ 8) (hdg : decode cc g.pc = .ok (.invokestatic index, 3)) (hf : cells + mc ≤ R.cells ∧ slots + ms ≤ R.slots) :
    vx_Run p l e R s m args below meth c H locs cells slots mc ms g rest (Qc As.toArray) XC free := by
  have hK : vx_Back l R p e below s args y 3 8 (PreOf R mc ms Pc) (PostOf Qc mc ms free) (vx_Post XC mc ms free) := vx_callBack cw.1 hM hp.1
  obtain ⟨⟨-, -, -, -, -, -, hcode, hini, hy, hlen, hl⟩, hstt⟩ := cw
  obtain ⟨hx, hb, hml, ho, -⟩ := S
  intro T hT X
  rcases vx_callS X hx (bytes := bytes) (maxL := maxL) (ret := ret) ho hl hstt hini hcode hy hK hg (hsize.trans hml.symm) (argsL := As) (rest := rest) (fun sig h => hn.trans (hlen sig h)) hstack hW (by rw [hb]; exact hdg)
    (fun vm₁ hW₁ => ⟨hf.1, hf.2, hp.2 (T.setVm vm₁) hT hW₁⟩) with ⟨v, vm₁, ⟨U', l2, c2, s2⟩, hW₁, X', ⟨g', mk, t, L, e1, e2, hq, h1, hL, h2, h3⟩, st⟩ | ⟨q, vm₁, ⟨U', l2, c2, s2⟩, hW₁, X', ⟨g', mk, t, L, E, ce, e1, e2, hq, hce, hcv, hcl, h1, hL, h2, h3⟩, st⟩
  · dsimp only [Pt.U, Pt.locs, Pt.cells, Pt.slots] at X' e1 e2 h1 h2 h3 st
    subst h1; subst h2; subst h3
    exact Or.inl ⟨v, (T.setVm vm₁).calling g' mk As.toArray, t, U', L, hT, X', hL, e1, e2, hq, st⟩
  · dsimp only [Pt.U, Pt.locs, Pt.cells, Pt.slots] at X' e1 e2 h1 h2 h3 st hcl
    subst h1; subst h2; subst h3
    exact Or.inr ⟨q, (T.setVm vm₁).calling g' mk As.toArray, t, U', L, E, ce, hT, X', hL, e1, e2, hq, hce, hcv, vx_cls hW₁ hcl, st⟩
end Runs
section Rows
variable {p : Program} {l : Launch} {e : Env} {R : Room} {s : State} {m : MethodId} {args : Array Value} {below : List Frame} {meth : Method} {c : Code} {H : Heap} {locs : List Loc} {cells slots : Nat} {Q : State → Prop}
variable {mc ms : Nat} {free : Addr → Prop} {A0 A1 : Nat → Prop} {H0 : Heap} {a : Array Value} {pc : Nat} {ls : Array Slot} {st0 rest : List Value}
theorem vx_keep {st₀ t T' : State} {L : List Loc} (h0 : st₀.heap = H) (e1 : T'.heap = t.heap) (hS : va_S A0 H0 H locs) (hA : ∀ q, q < H.size → A1 q → A0 q) (hf : ∀ q, free q → A0 q) (hL : ∀ q ∈ L, free q.base) (hF : va_F A1 st₀ t) :
    H.size ≤ T'.heap.size ∧ (∀ q : Nat, q < H.size → ¬ A1 q → T'.heap[q]? = H[q]?) ∧ va_S A0 H0 T'.heap (locs ++ L) := by
  obtain ⟨hz, hk⟩ := hF
  rw [h0] at hz hk
  exact ⟨by rw [e1]; exact hz, fun q h1 h2 => by rw [e1]; exact hk q h1 h2,
    ⟨Nat.le_trans hS.1 (by rw [e1]; exact hz), fun q h1 h2 => by rw [e1, hk q (Nat.lt_of_lt_of_le h1 hS.1) (fun z => h2 (hA q (Nat.lt_of_lt_of_le h1 hS.1) z))]; exact hS.2.1 q h1 h2, fun q hq => by
      rcases List.mem_append.mp hq with h | h
      · exact hS.2.2 q h
      · exact hf _ (hL q h)⟩⟩
theorem vx_calli {S SX : Type} {post : Int32 → S → Prop} {px : SX → Prop} {B : S → State → Prop} {BX : String → SX → State → Prop} {AX : Nat → Prop} (hr : vx_Run p l e R s m args below meth c H locs cells slots mc ms (F0 m pc ls st0) rest (va_Qi post B A1 a) (vx_X px BX AX) free) (hS : va_S A0 H0 H locs) (hA : ∀ q, q < H.size → A1 q → A0 q) (hf : ∀ q, free q → A0 q) (hAX : ∀ q, q < H.size → AX q → A0 q)
    (kx : ∀ (E : String) (ce : Cell) (q9 : Addr) (u : SX) (t : State) (H1 : Heap) (locs1 : List Loc), t.heap = H1 → s.vm.Alike t.vm → px u → BX E u t → H.size ≤ H1.size → (∀ q : Nat, q < H.size → ¬ AX q → H1[q]? = H[q]?) → va_S A0 H0 H1 locs1 → H1[q9]? = some ce → ce.vm = .none → s.vm.findClass E = some ce.cls → vx_W p l e R s m args below meth c H1 locs1 (cells + mc) (slots + ms) Q (F0 m pc ls rest) q9)
    (kk : ∀ (r : Int32) (u : S) (t : State) (H1 : Heap) (locs1 : List Loc), t.heap = H1 → s.vm.Alike t.vm → post r u → B u t → H.size ≤ H1.size → (∀ q : Nat, q < H.size → ¬ A1 q → H1[q]? = H[q]?) → va_S A0 H0 H1 locs1 → W p l e R s m args below meth c H1 locs1 (cells + mc) (slots + ms) Q (F0 m (pc + 3) ls (.int r :: rest))) : W p l e R s m args below meth c H locs cells slots Q (F0 m pc ls st0) := by
  intro T hT X
  rcases hr T hT X with ⟨v, st₀, t, T', L, h0, X', hL, e1, e2, ⟨⟨r, u, hv, hp, hb⟩, hF⟩, st⟩ | ⟨q, st₀, t, T', L, E, ce, h0, X', hL, e1, e2, ⟨u, hp, hb, hF⟩, hce, hcv, hcl, st⟩
  · cases hv
    obtain ⟨k1, k2, k3⟩ := vx_keep h0 e1 hS hA hf hL hF
    obtain ⟨t2, a1, b1⟩ := kk r u t T'.heap (locs ++ L) e1.symm (by rw [← e2]; exact X'.warmed.alike) hp hb k1 k2 k3 T' rfl X'
    exact ⟨t2, st t2 a1, b1⟩
  · obtain ⟨k1, k2, k3⟩ := vx_keep h0 e1 hS hAX hf hL hF
    obtain ⟨t2, a1, b1⟩ := kx E ce q u t T'.heap (locs ++ L) e1.symm (by rw [← e2]; exact X'.warmed.alike) hp hb k1 k2 k3 (by rw [e1]; exact hce) hcv hcl T' rfl X'
    exact ⟨t2, st.trans a1, b1⟩
theorem vx_calll {S SX : Type} {post : Int64 → S → Prop} {px : SX → Prop} {B : S → State → Prop} {BX : String → SX → State → Prop} {AX : Nat → Prop} (hr : vx_Run p l e R s m args below meth c H locs cells slots mc ms (F0 m pc ls st0) rest (va_Ql post B A1 a) (vx_X px BX AX) free) (hS : va_S A0 H0 H locs) (hA : ∀ q, q < H.size → A1 q → A0 q) (hf : ∀ q, free q → A0 q) (hAX : ∀ q, q < H.size → AX q → A0 q)
    (kx : ∀ (E : String) (ce : Cell) (q9 : Addr) (u : SX) (t : State) (H1 : Heap) (locs1 : List Loc), t.heap = H1 → s.vm.Alike t.vm → px u → BX E u t → H.size ≤ H1.size → (∀ q : Nat, q < H.size → ¬ AX q → H1[q]? = H[q]?) → va_S A0 H0 H1 locs1 → H1[q9]? = some ce → ce.vm = .none → s.vm.findClass E = some ce.cls → vx_W p l e R s m args below meth c H1 locs1 (cells + mc) (slots + ms) Q (F0 m pc ls rest) q9)
    (kk : ∀ (r : Int64) (u : S) (t : State) (H1 : Heap) (locs1 : List Loc), t.heap = H1 → s.vm.Alike t.vm → post r u → B u t → H.size ≤ H1.size → (∀ q : Nat, q < H.size → ¬ A1 q → H1[q]? = H[q]?) → va_S A0 H0 H1 locs1 → W p l e R s m args below meth c H1 locs1 (cells + mc) (slots + ms) Q (F0 m (pc + 3) ls (.long r :: rest))) : W p l e R s m args below meth c H locs cells slots Q (F0 m pc ls st0) := by
  intro T hT X
  rcases hr T hT X with ⟨v, st₀, t, T', L, h0, X', hL, e1, e2, ⟨⟨r, u, hv, hp, hb⟩, hF⟩, st⟩ | ⟨q, st₀, t, T', L, E, ce, h0, X', hL, e1, e2, ⟨u, hp, hb, hF⟩, hce, hcv, hcl, st⟩
  · cases hv
    obtain ⟨k1, k2, k3⟩ := vx_keep h0 e1 hS hA hf hL hF
    obtain ⟨t2, a1, b1⟩ := kk r u t T'.heap (locs ++ L) e1.symm (by rw [← e2]; exact X'.warmed.alike) hp hb k1 k2 k3 T' rfl X'
    exact ⟨t2, st t2 a1, b1⟩
  · obtain ⟨k1, k2, k3⟩ := vx_keep h0 e1 hS hAX hf hL hF
    obtain ⟨t2, a1, b1⟩ := kx E ce q u t T'.heap (locs ++ L) e1.symm (by rw [← e2]; exact X'.warmed.alike) hp hb k1 k2 k3 (by rw [e1]; exact hce) hcv hcl T' rfl X'
    exact ⟨t2, st.trans a1, b1⟩
theorem vx_callf {S SX : Type} {post : UInt32 → S → Prop} {px : SX → Prop} {B : S → State → Prop} {BX : String → SX → State → Prop} {AX : Nat → Prop} (hr : vx_Run p l e R s m args below meth c H locs cells slots mc ms (F0 m pc ls st0) rest (va_Qf post B A1 a) (vx_X px BX AX) free) (hS : va_S A0 H0 H locs) (hA : ∀ q, q < H.size → A1 q → A0 q) (hf : ∀ q, free q → A0 q) (hAX : ∀ q, q < H.size → AX q → A0 q)
    (kx : ∀ (E : String) (ce : Cell) (q9 : Addr) (u : SX) (t : State) (H1 : Heap) (locs1 : List Loc), t.heap = H1 → s.vm.Alike t.vm → px u → BX E u t → H.size ≤ H1.size → (∀ q : Nat, q < H.size → ¬ AX q → H1[q]? = H[q]?) → va_S A0 H0 H1 locs1 → H1[q9]? = some ce → ce.vm = .none → s.vm.findClass E = some ce.cls → vx_W p l e R s m args below meth c H1 locs1 (cells + mc) (slots + ms) Q (F0 m pc ls rest) q9)
    (kk : ∀ (r : UInt32) (u : S) (t : State) (H1 : Heap) (locs1 : List Loc), t.heap = H1 → s.vm.Alike t.vm → post r u → B u t → H.size ≤ H1.size → (∀ q : Nat, q < H.size → ¬ A1 q → H1[q]? = H[q]?) → va_S A0 H0 H1 locs1 → W p l e R s m args below meth c H1 locs1 (cells + mc) (slots + ms) Q (F0 m (pc + 3) ls (.float r :: rest))) : W p l e R s m args below meth c H locs cells slots Q (F0 m pc ls st0) := by
  intro T hT X
  rcases hr T hT X with ⟨v, st₀, t, T', L, h0, X', hL, e1, e2, ⟨⟨r, u, hv, hp, hb⟩, hF⟩, st⟩ | ⟨q, st₀, t, T', L, E, ce, h0, X', hL, e1, e2, ⟨u, hp, hb, hF⟩, hce, hcv, hcl, st⟩
  · cases hv
    obtain ⟨k1, k2, k3⟩ := vx_keep h0 e1 hS hA hf hL hF
    obtain ⟨t2, a1, b1⟩ := kk r u t T'.heap (locs ++ L) e1.symm (by rw [← e2]; exact X'.warmed.alike) hp hb k1 k2 k3 T' rfl X'
    exact ⟨t2, st t2 a1, b1⟩
  · obtain ⟨k1, k2, k3⟩ := vx_keep h0 e1 hS hAX hf hL hF
    obtain ⟨t2, a1, b1⟩ := kx E ce q u t T'.heap (locs ++ L) e1.symm (by rw [← e2]; exact X'.warmed.alike) hp hb k1 k2 k3 (by rw [e1]; exact hce) hcv hcl T' rfl X'
    exact ⟨t2, st.trans a1, b1⟩
theorem vx_calld {S SX : Type} {post : UInt64 → S → Prop} {px : SX → Prop} {B : S → State → Prop} {BX : String → SX → State → Prop} {AX : Nat → Prop} (hr : vx_Run p l e R s m args below meth c H locs cells slots mc ms (F0 m pc ls st0) rest (va_Qd post B A1 a) (vx_X px BX AX) free) (hS : va_S A0 H0 H locs) (hA : ∀ q, q < H.size → A1 q → A0 q) (hf : ∀ q, free q → A0 q) (hAX : ∀ q, q < H.size → AX q → A0 q)
    (kx : ∀ (E : String) (ce : Cell) (q9 : Addr) (u : SX) (t : State) (H1 : Heap) (locs1 : List Loc), t.heap = H1 → s.vm.Alike t.vm → px u → BX E u t → H.size ≤ H1.size → (∀ q : Nat, q < H.size → ¬ AX q → H1[q]? = H[q]?) → va_S A0 H0 H1 locs1 → H1[q9]? = some ce → ce.vm = .none → s.vm.findClass E = some ce.cls → vx_W p l e R s m args below meth c H1 locs1 (cells + mc) (slots + ms) Q (F0 m pc ls rest) q9)
    (kk : ∀ (r : UInt64) (u : S) (t : State) (H1 : Heap) (locs1 : List Loc), t.heap = H1 → s.vm.Alike t.vm → post r u → B u t → H.size ≤ H1.size → (∀ q : Nat, q < H.size → ¬ A1 q → H1[q]? = H[q]?) → va_S A0 H0 H1 locs1 → W p l e R s m args below meth c H1 locs1 (cells + mc) (slots + ms) Q (F0 m (pc + 3) ls (.double r :: rest))) : W p l e R s m args below meth c H locs cells slots Q (F0 m pc ls st0) := by
  intro T hT X
  rcases hr T hT X with ⟨v, st₀, t, T', L, h0, X', hL, e1, e2, ⟨⟨r, u, hv, hp, hb⟩, hF⟩, st⟩ | ⟨q, st₀, t, T', L, E, ce, h0, X', hL, e1, e2, ⟨u, hp, hb, hF⟩, hce, hcv, hcl, st⟩
  · cases hv
    obtain ⟨k1, k2, k3⟩ := vx_keep h0 e1 hS hA hf hL hF
    obtain ⟨t2, a1, b1⟩ := kk r u t T'.heap (locs ++ L) e1.symm (by rw [← e2]; exact X'.warmed.alike) hp hb k1 k2 k3 T' rfl X'
    exact ⟨t2, st t2 a1, b1⟩
  · obtain ⟨k1, k2, k3⟩ := vx_keep h0 e1 hS hAX hf hL hF
    obtain ⟨t2, a1, b1⟩ := kx E ce q u t T'.heap (locs ++ L) e1.symm (by rw [← e2]; exact X'.warmed.alike) hp hb k1 k2 k3 (by rw [e1]; exact hce) hcv hcl T' rfl X'
    exact ⟨t2, st.trans a1, b1⟩
theorem vx_callv {S SX : Type} {post : S → Prop} {px : SX → Prop} {B : S → State → Prop} {BX : String → SX → State → Prop} {AX : Nat → Prop} (hr : vx_Run p l e R s m args below meth c H locs cells slots mc ms (F0 m pc ls st0) rest (va_Qv post B A1 a) (vx_X px BX AX) free) (hS : va_S A0 H0 H locs) (hA : ∀ q, q < H.size → A1 q → A0 q) (hf : ∀ q, free q → A0 q) (hAX : ∀ q, q < H.size → AX q → A0 q)
    (kx : ∀ (E : String) (ce : Cell) (q9 : Addr) (u : SX) (t : State) (H1 : Heap) (locs1 : List Loc), t.heap = H1 → s.vm.Alike t.vm → px u → BX E u t → H.size ≤ H1.size → (∀ q : Nat, q < H.size → ¬ AX q → H1[q]? = H[q]?) → va_S A0 H0 H1 locs1 → H1[q9]? = some ce → ce.vm = .none → s.vm.findClass E = some ce.cls → vx_W p l e R s m args below meth c H1 locs1 (cells + mc) (slots + ms) Q (F0 m pc ls rest) q9)
    (kk : ∀ (u : S) (t : State) (H1 : Heap) (locs1 : List Loc), t.heap = H1 → s.vm.Alike t.vm → post u → B u t → H.size ≤ H1.size → (∀ q : Nat, q < H.size → ¬ A1 q → H1[q]? = H[q]?) → va_S A0 H0 H1 locs1 → W p l e R s m args below meth c H1 locs1 (cells + mc) (slots + ms) Q (F0 m (pc + 3) ls (rest))) : W p l e R s m args below meth c H locs cells slots Q (F0 m pc ls st0) := by
  intro T hT X
  rcases hr T hT X with ⟨v, st₀, t, T', L, h0, X', hL, e1, e2, ⟨⟨u, hv, hp, hb⟩, hF⟩, st⟩ | ⟨q, st₀, t, T', L, E, ce, h0, X', hL, e1, e2, ⟨u, hp, hb, hF⟩, hce, hcv, hcl, st⟩
  · cases hv
    obtain ⟨k1, k2, k3⟩ := vx_keep h0 e1 hS hA hf hL hF
    obtain ⟨t2, a1, b1⟩ := kk u t T'.heap (locs ++ L) e1.symm (by rw [← e2]; exact X'.warmed.alike) hp hb k1 k2 k3 T' rfl X'
    exact ⟨t2, st t2 a1, b1⟩
  · obtain ⟨k1, k2, k3⟩ := vx_keep h0 e1 hS hAX hf hL hF
    obtain ⟨t2, a1, b1⟩ := kx E ce q u t T'.heap (locs ++ L) e1.symm (by rw [← e2]; exact X'.warmed.alike) hp hb k1 k2 k3 (by rw [e1]; exact hce) hcv hcl T' rfl X'
    exact ⟨t2, st.trans a1, b1⟩
/-- caught by the row x of this method's table; the rows ahead don't take it -/
theorem vx_catch {own name : String} {E : String} {ce : Cell} {q : Addr} (hown : s.vm.findClass own = some m.cls) (pre : List ExceptionTableEntry) (x : ExceptionTableEntry) (suf : List ExceptionTableEntry) (hsplit : c.exceptionTable.toList = pre ++ x :: suf)
    (hpass : ∀ z ∈ pre, covers z pc = false ∨ (z.catchType ≠ 0 ∧ ∃ nm : String, (Cond.classLink own z.catchType nm).before args s = true ∧ va_Nc E nm s)) (hx : covers x pc = true) (h0 : x.catchType ≠ 0)
    (hlink : (Cond.classLink own x.catchType name).before args s = true) (hcast : (Cond.castable E name).before args s = true) (hcell : H[q]? = some ce) (hv : ce.vm = .none) (hcl : s.vm.findClass E = some ce.cls)
    (kk : W p l e R s m args below meth c H locs cells slots Q (F0 m x.handlerPc ls [.ref q])) : vx_W p l e R s m args below meth c H locs cells slots Q (F0 m pc ls rest) q := by
  intro T hT X
  have hpl : e.platform.magicAccessors = ({} : Platform).magicAccessors := by rw [X.admits.platform]
  obtain ⟨c3, c4, hc3, hc4, hasg⟩ := Cond.castable_spec hcast
  cases Option.some.inj (hc3.symm.trans hcl)
  obtain ⟨c5, hc5, hcl5⟩ := Cond.classLink_spec hown hlink e.platform hpl
  cases Option.some.inj (hc4.symm.trans hc5)
  obtain ⟨vm', X', st⟩ := Stand.thenCaughtThrough X q (g := F0 m pc ls rest) rfl (Steps.refl _) (by rw [hT]; exact hcell) (by rw [hv]; rfl) (by obtain ⟨k9, h9, -⟩ := Vm.findClass_spec hcl; exact ⟨k9, h9⟩) pre x suf hsplit
    (fun z hz => by
      rcases hpass z hz with h | ⟨hz0, nm, hl1, hn1⟩
      · exact Or.inl h
      · obtain ⟨c6, hc6, hcl6⟩ := Cond.classLink_spec hown hl1 e.platform hpl
        obtain ⟨a8, b8, h1, h2, h3⟩ := hn1
        cases Option.some.inj (h1.symm.trans hcl)
        cases Option.some.inj (h2.symm.trans hc6)
        exact Or.inr ⟨hz0, _, hcl6, h3⟩) hx (Or.inr ⟨h0, c4, hcl5, hasg⟩)
  obtain ⟨t, a1, b1⟩ := kk (T.setVm vm') hT X'
  exact ⟨t, st.trans a1, b1⟩
end Rows
section Ends
variable {p : Program} {l : Launch} {e : Env} {R : Room} {s : State} {m : MethodId} {args : Array Value} {below : List Frame} {meth : Method} {c : Code} {H : Heap} {locs : List Loc} {cells slots : Nat} {Q : State → Prop}
variable {mc ms : Nat} {free : Addr → Prop} {A0 A1 : Nat → Prop} {H0 : Heap} {a : Array Value} {ls : Array Slot} {st0 rest : List Value}
variable {Qc : Array Value → State → Outcome → State → Prop} {XC : String → State → State → Prop}
/-- what a body that may throw owes at its end -/
def vx_MQ (below : List Frame) (Qc : Array Value → State → Outcome → State → Prop) (XC : String → State → State → Prop) (a : Array Value) (s : State) (mc ms : Nat) (free : Addr → Prop) : State → Prop := fun t =>
  ∃ o, t.status = .running ∧ Ended t below o ∧ vx_Q Qc XC mc ms free a s o t
theorem vx_ret {g : JFrame} {mc ms : Nat} (k : W p l e R s m args below meth c H locs cells slots (MQ below Qc args s mc ms free) g) : W p l e R s m args below meth c H locs cells slots (vx_MQ below Qc XC args s mc ms free) g := by
  intro T hT X
  obtain ⟨t, a1, o, b1, b2, b3, b4⟩ := k T hT X
  exact ⟨t, a1, o, b1, b2, Or.inl ⟨b3, b4⟩⟩
/-- not caught here: it goes on to the caller -/
theorem vx_widen {g : JFrame} {q : Addr} {k n : Nat} (h1 : cells ≤ k) (h2 : slots ≤ n) (kk : vx_W p l e R s m args below meth c H locs k n Q g q) : vx_W p l e R s m args below meth c H locs cells slots Q g q := fun T hT X => kk T hT (stand_widen X h1 h2)
theorem vx_out {pc : Nat} {E : String} {ce : Cell} {q : Addr} {mc ms : Nat} (hout : ∀ x ∈ c.exceptionTable.toList, covers x pc = false) (hlocks : meth.locks = false) (hcell : H[q]? = some ce) (hv : ce.vm = .none) (hcl : s.vm.findClass E = some ce.cls)
    (hx : ∀ t : State, t.heap = H → s.vm.Alike t.vm → XC E s t) (hf : ∀ z ∈ locs, free z.base) (hc : cells ≤ mc) (hs : slots ≤ ms) :
    vx_W p l e R s m args below meth c H locs cells slots (vx_MQ below Qc XC args s mc ms free) (F0 m pc ls rest) q := by
  intro T hT X
  obtain ⟨st1, hrun, hend, hW, hsm⟩ := X.leaveThrown q (g := F0 m pc ls rest) rfl rfl rfl hout hlocks
  have hcell9 : (T.setFrames (.throwing q :: below)).heap[q]? = some ce := by
    show T.heap[q]? = some ce
    rw [hT]; exact hcell
  exact ⟨_, st1, .threw q, hrun, hend, Or.inr ⟨q, rfl, E, ce, locs, hx _ hT hW.alike, hcell9, hv, hcl, hW, hsm.mono hc hs, hf⟩⟩
theorem vx_frame {U : State} {k n : Nat} (h : s.sameButNew ({ U with vm := s.vm } : State) locs k n) : s.heap.size ≤ U.heap.size ∧ ∀ q : Nat, q < s.heap.size → (∀ z ∈ locs, z.base ≠ q) → U.heap[q]? = s.heap[q]? := by
  obtain ⟨-, h2, -, -, -, h6⟩ := h
  refine ⟨h2, fun q hq hz => ?_⟩
  obtain ⟨c9, e1, e2, e3, e4⟩ := h6 q _ (Array.getElem?_eq_getElem hq)
  have hs : c9.slots = (s.heap[q]).slots := Array.ext_getElem? fun i => e4 i fun hm => hz _ hm rfl
  have h9 : c9 = s.heap[q] := by
    rw [hs] at e2
    exact e2
  have e5 : U.heap[q]? = some c9 := e1
  rw [e5, h9, Array.getElem?_eq_getElem hq]
/-- the words of a throw but the four that speak of the heap -/
def vx_no (w : Cond) : Bool := decide (w ≠ .isRef (.static Bundle.tN "UNASSIGNED_STACK" Bundle.steD)) && decide (w ≠ .isRef (.static Bundle.tN "SUPPRESSED_SENTINEL" Bundle.listD)) && decide (w ≠ .laysStatic Bundle.tN "UNASSIGNED_STACK" Bundle.steD) && decide (w ≠ .laysStatic Bundle.tN "SUPPRESSED_SENTINEL" Bundle.listD)
def vx_at0 (own : String) (ic : Nat) (X : String) (names : List String) : List Cond := (Bundle.ownAtoms0 own ic X names).filter vx_no
def vx_atS (own : String) (ic : Nat) (X : String) (names : List String) : List Cond := (Bundle.ownAtoms own ic X names).filter vx_no
/-- a word that the tables alone decide, or a good one -/
def vx_ot (w : Cond) : Bool := w.onTables || goodWord w
theorem vx_ot_at {args a' : Array Value} {s U : State} {w : Cond} (hW : s.WarmedH U.vm) (hvm : s.vm = U.vm) (hg : vx_ot w = true) (h : w.before args s = true) : w.before a' U = true := by
  simp only [vx_ot, Bool.or_eq_true] at hg
  rcases hg with hg | hg
  · exact va_tabs hg hvm h
  · exact word_at hW (good_of_word hg) h
/-- a list's words: the good ones out of the method's own list, the others by premises of their own -/
theorem vx_hat {args : Array Value} {s : State} {L B : List Cond} (h1 : ∀ w ∈ L.filter goodWord, w.before args s = true) (h2 : ∀ w ∈ L.filter (fun w => !goodWord w), w ∈ B) (h3 : ∀ w ∈ B, w.before args s = true) : ∀ w ∈ L, w.before args s = true := by
  intro w hw
  by_cases g : goodWord w = true
  · exact h1 w (List.mem_filter.mpr ⟨hw, g⟩)
  · refine h3 w (h2 w (List.mem_filter.mpr ⟨hw, ?_⟩))
    show (!goodWord w) = true
    cases hgw : goodWord w
    · rfl
    · exact absurd hgw g
theorem vx_c {args : Array Value} {s : State} {w : Cond} {B : List Cond} (h : w.before args s = true) (t : ∀ w ∈ B, w.before args s = true) : ∀ w' ∈ w :: B, w'.before args s = true := fun w' h' => (List.mem_cons.mp h').elim (fun e => by rw [e]; exact h) (t w')
theorem vx_n {args : Array Value} {s : State} : ∀ w ∈ ([] : List Cond), w.before args s = true := fun _ h => nomatch h
theorem vx_own {args : Array Value} {s : State} {L : List Cond} (h1 : ∀ w ∈ L.filter vx_no, w.before args s = true)
    (hU : (Cond.isRef (.static Bundle.tN "UNASSIGNED_STACK" Bundle.steD)).before args s = true) (hN : (Cond.isRef (.static Bundle.tN "SUPPRESSED_SENTINEL" Bundle.listD)).before args s = true)
    (lU : (Cond.laysStatic Bundle.tN "UNASSIGNED_STACK" Bundle.steD).before args s = true) (lN : (Cond.laysStatic Bundle.tN "SUPPRESSED_SENTINEL" Bundle.listD).before args s = true) : ∀ w ∈ L, w.before args s = true := by
  intro w hw
  by_cases e1 : w = .isRef (.static Bundle.tN "UNASSIGNED_STACK" Bundle.steD)
  · rw [e1]; exact hU
  · by_cases e2 : w = .isRef (.static Bundle.tN "SUPPRESSED_SENTINEL" Bundle.listD)
    · rw [e2]; exact hN
    · by_cases e3 : w = .laysStatic Bundle.tN "UNASSIGNED_STACK" Bundle.steD
      · rw [e3]; exact lU
      · by_cases e4 : w = .laysStatic Bundle.tN "SUPPRESSED_SENTINEL" Bundle.listD
        · rw [e4]; exact lN
        · exact h1 w (List.mem_filter.mpr ⟨hw, by unfold vx_no; rw [decide_eq_true e1, decide_eq_true e2, decide_eq_true e3, decide_eq_true e4]; rfl⟩)
/-- where a static field lies, its class's statics cell in H -/
def vx_L (C n d : String) (A : Nat → Prop) (U : State) (H : Heap) : Prop := ∃ (c : ClassId) (k : Class) (i : Nat) (f : Field) (a : Nat) (cell : Cell), U.vm.findClass C = some c ∧ U.fieldFound? C n d = some (c, k, i, f) ∧ f.isStatic = true ∧ k.statics = some a ∧ H[a]? = some cell ∧ cell.vm.isStatics = true ∧ cell.cls = c ∧ f.slot < cell.slots.size ∧ k.staticTypes[f.slot]? = some f.type ∧ ¬ A a
theorem vx_L.moved {C n d : String} {A : Nat → Prop} {u U : State} {H : Heap} (hvm : u.vm.Alike U.vm) (h : vx_L C n d A u H) : vx_L C n d A U H := by
  obtain ⟨c, k, i, f, a, cell, h1, h2, h3, h4, h5, h6, h7, h8, h9, h10⟩ := h
  obtain ⟨k', hi', he⟩ := State.fieldFound?_setVm hvm h2
  exact ⟨c, k', i, f, a, cell, by rw [hvm.findClass]; exact h1, hi', h3, by rw [he]; exact h4, h5, h6, h7, h8, by rw [he]; exact h9, h10⟩
theorem vx_L.kept {C n d : String} {A : Nat → Prop} {U : State} {H H1 : Heap} (h : vx_L C n d A U H) (hq : ∀ a : Nat, a < H.size → ¬ A a → H1[a]? = H[a]?) : vx_L C n d A U H1 := by
  obtain ⟨c, k, i, f, a, cell, h1, h2, h3, h4, h5, h6, h7, h8, h9, h10⟩ := h
  exact ⟨c, k, i, f, a, cell, h1, h2, h3, h4, by rw [hq a (Array.getElem?_eq_some_iff.mp h5).1 h10]; exact h5, h6, h7, h8, h9, h10⟩
theorem vx_L.narrow {C n d : String} {A B : Nat → Prop} {U : State} {H : Heap} (h : vx_L C n d A U H) (hAB : ∀ q, B q → A q) : vx_L C n d B U H := by
  obtain ⟨c, k, i, f, a, cell, h1, h2, h3, h4, h5, h6, h7, h8, h9, h10⟩ := h
  exact ⟨c, k, i, f, a, cell, h1, h2, h3, h4, h5, h6, h7, h8, h9, fun z => h10 (hAB _ z)⟩
theorem vx_L.word {C n d : String} {A : Nat → Prop} {s : State} {args : Array Value} (h : vx_L C n d A s s.heap) : (Cond.laysStatic C n d).before args s = true := by
  obtain ⟨c, k, i, f, a, cell, h1, h2, h3, h4, h5, h6, h7, h8, h9, -⟩ := h
  show (Cond.laysStatic C n d).holds args s none s [] = true
  exact Cond.laysStatic_of h1 h2 h3 h4 h5 h6 h7 h8 h9
/-- .. and what it holds: null or some reference -/
def vx_Zq (C n d : String) (A : Nat → Prop) (U : State) (H : Heap) : Prop := va_Zq C n d A U H ∧ vx_L C n d A U H
theorem vx_Zq.moved {C n d : String} {A : Nat → Prop} {u U : State} {H : Heap} (hvm : u.vm.Alike U.vm) (h : vx_Zq C n d A u H) : vx_Zq C n d A U H := ⟨va_Zq.moved hvm h.1, vx_L.moved hvm h.2⟩
theorem vx_Zq.kept {C n d : String} {A : Nat → Prop} {U : State} {H H1 : Heap} (h : vx_Zq C n d A U H) (hq : ∀ a : Nat, a < H.size → ¬ A a → H1[a]? = H[a]?) : vx_Zq C n d A U H1 := ⟨va_Zq.kept h.1 hq, vx_L.kept h.2 hq⟩
theorem vx_Zq.narrow {C n d : String} {A B : Nat → Prop} {U : State} {H : Heap} (h : vx_Zq C n d A U H) (hAB : ∀ q, B q → A q) : vx_Zq C n d B U H := ⟨va_Zq.narrow h.1 hAB, vx_L.narrow h.2 hAB⟩
theorem vx_Zqof {args : Array Value} {s : State} {C n d : String} {A : Nat → Prop} (hl : (Cond.laysStatic C n d).before args s = true) (hini : (Cond.initialized C).before args s = true) (h : (Cond.isRef (.static C n d)).before args s = true) (hA : ∀ a : Nat, a < s.heap.size → ¬ A a) : vx_Zq C n d A s s.heap := by
  refine ⟨va_Zqof hl hini h hA, ?_⟩
  obtain ⟨c, k, i, f, a, cell, h1, h2, h3, h4, h5, h6, h7, h8, h9⟩ := Cond.laysStatic_spec hl
  exact ⟨c, k, i, f, a, cell, h1, h2, h3, h4, h5, h6, h7, h8, h9, hA a (Array.getElem?_eq_some_iff.mp h5).1⟩
theorem vx_isRef {C n d : String} {v : Value} {A : Nat → Prop} {s : State} {args : Array Value} (h : va_Z C n d v A s s.heap) (hv : v.isRef = true) : (Cond.isRef (.static C n d)).before args s = true := by
  obtain ⟨cf, kf, fi, f, a, cell, h1, h2, h3, h4, h5, h6, h7, -⟩ := h
  have he : (Term.static C n d).eval args s none [] s = some v := by
    simp [Term.eval, State.fieldNamed?, h1, h2, h4, h5, h6, h7]
  simp only [Cond.before, Cond.holds, Cond.value, he]
  cases v <;> simp_all [Value.isRef]
theorem vx_isRefq {C n d : String} {A : Nat → Prop} {s : State} {args : Array Value} (h : va_Zq C n d A s s.heap) : (Cond.isRef (.static C n d)).before args s = true := by
  rcases h with h | ⟨t, h⟩
  · exact vx_isRef h rfl
  · exact vx_isRef h rfl
/-- the same frame, seen from here: as if the method were called anew in this heap -/
theorem vx_rebase {T : State} (X : Stand p l e R s m args below meth c T locs cells slots) {R' : Room} (hf : R'.frames ≤ R.frames) (hl : R'.locals ≤ R.locals) (hc : cells + R'.cells ≤ R.cells) (hs : slots + R'.slots ≤ R.slots) :
    Stand p l e R' ((T.setVm s.vm).setFrames (.invoking m args :: below)) m args below meth c T [] 0 0 := by
  have htop : (T.setVm s.vm).topJava?.isSome := X.here.top
  have hF : ((T.setVm s.vm).setFrames (.invoking m args :: below)).frames = .invoking m args :: below := State.frames_setFrames _ (State.cur_lt_of_top htop)
  obtain ⟨g₀, hg0⟩ := Option.isSome_iff_exists.mp htop
  obtain ⟨r, hr⟩ := State.topJava?_eq_some.mp hg0
  have hl9 : e.platform.stackLimits (T.setVm s.vm).me = e.platform.stackLimits s.me := X.limits
  have hb9 : (T.setVm s.vm).me.stackBytes = s.me.stackBytes := X.bytes
  refine ⟨X.admits, X.cas, X.clock, hF, ?_, X.hears, X.method, X.code, X.here, X.tail, X.warmed, ?_, ?_, ?_⟩
  · have h := X.room
    have hU : ((T.setVm s.vm).setFrames (.invoking m args :: below)).localsInUse = s.localsInUse := by
      rw [State.localsInUse_invoking hF (meth := meth) (c := c) X.method X.code, State.localsInUse_invoking X.frames X.method X.code]
    simp only [State.hasRoom, Bool.and_eq_true, decide_eq_true_eq] at h ⊢
    obtain ⟨⟨⟨⟨h1, h2, h3, h4, h5, h6⟩, h7⟩, h8⟩, h9⟩ := h
    rw [X.frames, List.length_cons] at h2 h3
    have q1 := X.heapSize
    have q2 := X.used
    simp only [hF, hU, List.length_cons, State.stackLimits_setFrames, State.stackBytes_setFrames, hl9, hb9]
    refine ⟨⟨⟨⟨by omega, by omega, by omega, by omega, by omega, h6⟩, ?_⟩, ?_⟩, X.book⟩
    · show T.heap.size + R'.cells ≤ e.platform.maxCells
      omega
    · show T.slotsUsed + R'.slots ≤ e.platform.maxSlots
      omega
  · rw [State.stackLimits_setFrames]; rfl
  · rw [State.stackBytes_setFrames]; rfl
  · refine ⟨?_, Nat.le_refl _, Nat.le_refl _, ?_, ?_, fun a c9 h9 => ⟨c9, h9, rfl, rfl, fun _ _ => rfl⟩⟩
    · obtain ⟨t, ht, -⟩ := State.frames_cons hr
      show T.setVm s.vm = { ((T.setVm s.vm).setFrames (.invoking m args :: below)).setFrames (T.setVm s.vm).frames with heap := T.heap, slotsUsed := T.slotsUsed }
      rw [State.setFrames_setFrames, State.setFrames_self ht]
      rfl
    · show T.slotsUsed = T.slotsUsed + ((T.heap.toList.drop T.heap.size).map (·.slots.size)).sum
      rw [List.drop_eq_nil_of_le (Nat.le_of_eq Array.length_toList)]
      rfl
    · show ((T.heap.toList.drop T.heap.size).map (·.slots.size)).sum ≤ 0
      rw [List.drop_eq_nil_of_le (Nat.le_of_eq Array.length_toList)]
      exact Nat.le_refl _
/-- 'throw new E()': new; dup; invokespecial; athrow -/
theorem vx_throw0 {cc : ByteArray} {pc : Nat} (hexec : p.tables.exec = Jvm.exec) (hb : c.code = cc) (hl : l.stackTraces = false) {own cls : String} {names : List String} {ik ic mc ms : Nat} {A : Nat → Prop}
    (hown : s.vm.findClass own = some m.cls) (hcls : Bundle.fit cls = true) (hnames : ∀ n ∈ names, Bundle.fit n = true)
    (hk : (Cond.classLink own ik cls).before args s = true) (hini : (Cond.initialized cls).before args s = true) (hat : ∀ w ∈ vx_at0 own ic cls names, w.before args s = true)
    (hgood : ∀ w ∈ Cond.classLink own ik cls :: Cond.initialized cls :: vx_at0 own ic cls names, vx_ot w = true)
    (hU : vx_Zq Bundle.tN "UNASSIGNED_STACK" Bundle.steD A s s.heap) (hN : vx_Zq Bundle.tN "SUPPRESSED_SENTINEL" Bundle.listD A s s.heap) (hS : va_S A s.heap H locs) (hsize : ls.size = c.maxLocals)
    (d0 : decode cc pc = .ok (.new ik, 3)) (d3 : decode cc (pc + 3) = .ok (.dup, 1)) (d4 : decode cc (pc + 4) = .ok (.invokespecial ic, 3)) (d7 : decode cc (pc + 7) = .ok (.athrow, 1))
    (hout : ∀ x ∈ c.exceptionTable.toList, covers x (pc + 7) = false)
    (hRframes : names.length + 3 < R.frames) (hRlocals : (rest.map fun v => v.category).sum + (13 * (names.length + 1) + 42) ≤ R.locals) (hRcells : cells + 1 ≤ R.cells) (hRslots : slots + 6 ≤ R.slots) (hlocks : meth.locks = false)
    (hx : ∀ t : State, s.vm.Alike t.vm → H.size ≤ t.heap.size → (∀ q : Nat, q < H.size → t.heap[q]? = H[q]?) → XC cls s t)
    (hf : ∀ z ∈ locs, free z.base) (hc : cells + 1 ≤ mc) (hs : slots + 6 ≤ ms) :
    W p l e R s m args below meth c H locs cells slots (vx_MQ below Qc XC args s mc ms free) (F0 m pc ls rest) := by
  intro T hT X
  have htr : e.platform.stackTraces = false := (show e.platform.stackTraces = l.stackTraces by rw [X.admits.platform]).trans hl
  have Y := vx_rebase X (R' := { frames := R.frames, locals := R.locals, cells := 1, slots := 6 }) (Nat.le_refl _) (Nat.le_refl _) hRcells hRslots
  obtain ⟨s', hA⟩ : ∃ z, z = (T.setVm s.vm).setFrames (.invoking m args :: below) := ⟨_, rfl⟩
  rw [← hA] at Y
  have hvm : s'.vm = s.vm := by rw [hA]; rfl
  have hhp : s'.heap = H := by rw [hA]; exact hT
  have hW0 : s.WarmedH s'.vm := by rw [hvm]; exact State.WarmedH.refl s
  have hat' : ∀ w ∈ vx_at0 own ic cls names, w.before args s' = true := fun w hw => vx_ot_at hW0 hvm.symm (hgood w (List.mem_cons_of_mem _ (List.mem_cons_of_mem _ hw))) (hat w hw)
  have hk' : (Cond.classLink own ik cls).before args s' = true := vx_ot_at hW0 hvm.symm (hgood _ List.mem_cons_self) hk
  have hini' : (Cond.initialized cls).before args s' = true := vx_ot_at hW0 hvm.symm (hgood _ (List.mem_cons_of_mem _ List.mem_cons_self)) hini
  have hU' : vx_Zq Bundle.tN "UNASSIGNED_STACK" Bundle.steD A s' s'.heap := by rw [hhp]; exact vx_Zq.moved hW0.alike (hU.kept hS.2.1)
  have hN' : vx_Zq Bundle.tN "SUPPRESSED_SENTINEL" Bundle.listD A s' s'.heap := by rw [hhp]; exact vx_Zq.moved hW0.alike (hN.kept hS.2.1)
  have h : ∀ w ∈ Bundle.ownAtoms0 own ic cls names, w.before args s' = true := vx_own hat' (vx_isRefq hU'.1) (vx_isRefq hN'.1) hU'.2.word hN'.2.word
  have hown' : s'.vm.findClass own = some m.cls := by rw [hvm]; exact hown
  have hins : (Cond.instantiable cls 6).before args s' = true := h _ (by simp [Bundle.ownAtoms0])
  obtain ⟨vm₁, cX, kX, hfX, hkX, -, -, X₁, st1⟩ := Y.newCold hexec (own := own) (C := cls) (index := ik) (n := 6) hown' hk' hins hini'
    (g := F0 m pc ls rest) rfl (by rw [hb]; exact d0) (Nat.le_refl _) (Nat.le_refl _)
  generalize hT1 : (T.setVm vm₁).pushCell { cls := cX, slots := kX.instanceTypes.map defaultValue, vm := .none } = T1 at X₁ st1
  have hcat : (Value.ref T.heap.size).category = 1 := rfl
  have hcellA : T1.heap[T.heap.size]? = some (freshCell cX kX) := by rw [← hT1]; exact State.heap_pushCell_size _ _
  have d3' : decode c.code (pc + 3) = .ok (.dup, 1) := by rw [hb]; exact d3
  obtain ⟨U, hsteps, hrun, hend, hW, hsame, ce, hce, hO⟩ := X₁.ctorThrow0 hexec htr (own := own) (cls := cls) (names := names) (ic := ic) hown' hcls hnames h (fun x hx => nomatch hx) hfX hkX hcellA (by rw [hhp, hT]; exact Nat.le_refl _)
    (g := { method := m, pc := pc + 4, locals := ls, stack := .ref T.heap.size :: .ref T.heap.size :: rest, locked := none }) rfl hsize rfl rfl (rest := rest) rfl
    (by rw [hb]; exact d4) (by rw [hb]; exact d7) hout hRframes (by simp only [List.map_cons, List.sum_cons, hcat]; omega) hlocks
  obtain ⟨f1, f2⟩ := vx_frame hsame
  rw [hhp] at f1 f2
  have hWs : s.WarmedH U.vm := State.WarmedH.trans hW0 hW
  have hcl : s.vm.findClass cls = some ce.cls := by
    have h9 := hO.cls
    rw [hvm] at h9
    exact h9
  have hall : s.sameButNew ({ U with vm := s.vm } : State) locs mc ms := by
    subst hA
    obtain ⟨e1, e2⟩ := hsame
    rw [State.setFrames_setFrames] at e1
    have h2 : (T.setVm s.vm).sameButNew ({ U with vm := s.vm } : State) [] (0 + 1) (0 + 6) := ⟨e1, e2⟩
    have h3 := X.same.trans h2
    rw [List.append_nil] at h3
    exact h3.mono hc hs
  refine ⟨U, ?_, .threw T.heap.size, hrun, hend, Or.inr ⟨T.heap.size, rfl, cls, ce, locs, hx U hWs.alike f1 (fun q hq => f2 q hq (fun z hz => nomatch hz)), hce, hO.vm, hcl, hWs, hall, hf⟩⟩
  refine st1 _ ?_
  show Steps p.tables e below (T1.setTop { method := m, pc := pc + 3, locals := ls, stack := .ref T.heap.size :: rest, locked := none }) _
  jvm_step X₁.here [X₁.here.top, hexec, d3', Value.category]
  exact hsteps
/-- 'throw new E("text")': new; dup; ldc; invokespecial; athrow -/
theorem vx_throwS {cc : ByteArray} {pc : Nat} (hexec : p.tables.exec = Jvm.exec) (hb : c.code = cc) (hl : l.stackTraces = false) {own cls text : String} {names : List String} {ik is ic mc ms sa : Nat} {A : Nat → Prop}
    (hown : s.vm.findClass own = some m.cls) (hcls : Bundle.fit cls = true) (hnames : ∀ n ∈ names, Bundle.fit n = true)
    (hk : (Cond.classLink own ik cls).before args s = true) (hini : (Cond.initialized cls).before args s = true) (hstr : vk_R own is text sa s) (hat : ∀ w ∈ vx_atS own ic cls names, w.before args s = true)
    (hgood : ∀ w ∈ Cond.classLink own ik cls :: Cond.initialized cls :: vx_atS own ic cls names, vx_ot w = true)
    (hU : vx_Zq Bundle.tN "UNASSIGNED_STACK" Bundle.steD A s s.heap) (hN : vx_Zq Bundle.tN "SUPPRESSED_SENTINEL" Bundle.listD A s s.heap) (hS : va_S A s.heap H locs) (hsize : ls.size = c.maxLocals)
    (d0 : decode cc pc = .ok (.new ik, 3)) (d3 : decode cc (pc + 3) = .ok (.dup, 1)) (d4 : decode cc (pc + 4) = .ok (.ldc is, 2)) (d6 : decode cc (pc + 6) = .ok (.invokespecial ic, 3)) (d9 : decode cc (pc + 9) = .ok (.athrow, 1))
    (hout : ∀ x ∈ c.exceptionTable.toList, covers x (pc + 9) = false)
    (hRframes : names.length + 3 < R.frames) (hRlocals : (rest.map fun v => v.category).sum + (13 * (names.length + 1) + 43) ≤ R.locals) (hRcells : cells + 1 ≤ R.cells) (hRslots : slots + 6 ≤ R.slots) (hlocks : meth.locks = false)
    (hx : ∀ t : State, s.vm.Alike t.vm → H.size ≤ t.heap.size → (∀ q : Nat, q < H.size → t.heap[q]? = H[q]?) → XC cls s t)
    (hf : ∀ z ∈ locs, free z.base) (hc : cells + 1 ≤ mc) (hs : slots + 6 ≤ ms) :
    W p l e R s m args below meth c H locs cells slots (vx_MQ below Qc XC args s mc ms free) (F0 m pc ls rest) := by
  intro T hT X
  have htr : e.platform.stackTraces = false := (show e.platform.stackTraces = l.stackTraces by rw [X.admits.platform]).trans hl
  have Y := vx_rebase X (R' := { frames := R.frames, locals := R.locals, cells := 1, slots := 6 }) (Nat.le_refl _) (Nat.le_refl _) hRcells hRslots
  obtain ⟨s', hA⟩ : ∃ z, z = (T.setVm s.vm).setFrames (.invoking m args :: below) := ⟨_, rfl⟩
  rw [← hA] at Y
  have hvm : s'.vm = s.vm := by rw [hA]; rfl
  have hhp : s'.heap = H := by rw [hA]; exact hT
  have hW0 : s.WarmedH s'.vm := by rw [hvm]; exact State.WarmedH.refl s
  have hat' : ∀ w ∈ vx_atS own ic cls names, w.before args s' = true := fun w hw => vx_ot_at hW0 hvm.symm (hgood w (List.mem_cons_of_mem _ (List.mem_cons_of_mem _ hw))) (hat w hw)
  have hk' : (Cond.classLink own ik cls).before args s' = true := vx_ot_at hW0 hvm.symm (hgood _ List.mem_cons_self) hk
  have hini' : (Cond.initialized cls).before args s' = true := vx_ot_at hW0 hvm.symm (hgood _ (List.mem_cons_of_mem _ List.mem_cons_self)) hini
  have hU' : vx_Zq Bundle.tN "UNASSIGNED_STACK" Bundle.steD A s' s'.heap := by rw [hhp]; exact vx_Zq.moved hW0.alike (hU.kept hS.2.1)
  have hN' : vx_Zq Bundle.tN "SUPPRESSED_SENTINEL" Bundle.listD A s' s'.heap := by rw [hhp]; exact vx_Zq.moved hW0.alike (hN.kept hS.2.1)
  have h : ∀ w ∈ Bundle.ownAtoms own ic cls names, w.before args s' = true := vx_own hat' (vx_isRefq hU'.1) (vx_isRefq hN'.1) hU'.2.word hN'.2.word
  have hown' : s'.vm.findClass own = some m.cls := by rw [hvm]; exact hown
  have hins : (Cond.instantiable cls 6).before args s' = true := h _ (by simp [Bundle.ownAtoms])
  obtain ⟨vm₁, cX, kX, hfX, hkX, -, -, X₁, st1⟩ := Y.newCold hexec (own := own) (C := cls) (index := ik) (n := 6) hown' hk' hins hini'
    (g := F0 m pc ls rest) rfl (by rw [hb]; exact d0) (Nat.le_refl _) (Nat.le_refl _)
  generalize hT1 : (T.setVm vm₁).pushCell { cls := cX, slots := kX.instanceTypes.map defaultValue, vm := .none } = T1 at X₁ st1
  have hcat : (Value.ref T.heap.size).category = 1 := rfl
  have hcellA : T1.heap[T.heap.size]? = some (freshCell cX kX) := by rw [← hT1]; exact State.heap_pushCell_size _ _
  have d3' : decode c.code (pc + 3) = .ok (.dup, 1) := by rw [hb]; exact d3
  have d4' : decode c.code (pc + 4) = .ok (.ldc is, 2) := by rw [hb]; exact d4
  have hstr' : vk_R own is text sa s' := vk_R.warm hW0 hstr
  obtain ⟨U, hsteps, hrun, hend, hW, hsame, ce, hce, hO⟩ := X₁.ctorThrowS hexec htr (own := own) (cls := cls) (names := names) (ic := ic) hown' hcls hnames h (fun x hx => nomatch hx) hfX hkX hcellA (by rw [hhp, hT]; exact Nat.le_refl _) (msg := .ref sa) rfl
    (g := { method := m, pc := pc + 6, locals := ls, stack := .ref sa :: .ref T.heap.size :: .ref T.heap.size :: rest, locked := none }) rfl hsize rfl rfl (rest := rest) rfl
    (by rw [hb]; exact d6) (by rw [hb]; exact d9) hout hRframes (by simp only [List.map_cons, List.sum_cons, hcat]; omega) hlocks
  obtain ⟨f1, f2⟩ := vx_frame hsame
  rw [hhp] at f1 f2
  have hWs : s.WarmedH U.vm := State.WarmedH.trans hW0 hW
  have hcl : s.vm.findClass cls = some ce.cls := by
    have h9 := hO.cls
    rw [hvm] at h9
    exact h9
  have hall : s.sameButNew ({ U with vm := s.vm } : State) locs mc ms := by
    subst hA
    obtain ⟨e1, e2⟩ := hsame
    rw [State.setFrames_setFrames] at e1
    have h2 : (T.setVm s.vm).sameButNew ({ U with vm := s.vm } : State) [] (0 + 1) (0 + 6) := ⟨e1, e2⟩
    have h3 := X.same.trans h2
    rw [List.append_nil] at h3
    exact h3.mono hc hs
  refine ⟨U, ?_, .threw T.heap.size, hrun, hend, Or.inr ⟨T.heap.size, rfl, cls, ce, locs, hx U hWs.alike f1 (fun q hq => f2 q hq (fun z hz => nomatch hz)), hce, hO.vm, hcl, hWs, hall, hf⟩⟩
  refine st1 _ ?_
  show Steps p.tables e below (T1.setTop { method := m, pc := pc + 3, locals := ls, stack := .ref T.heap.size :: rest, locked := none }) _
  jvm_step X₁.here [X₁.here.top, hexec, d3', Value.category]
  exact X₁.ldcString hexec (own := own) (text := text) (index := is) (a := sa) hown' hstr'.1 hstr'.2
    (g := { method := m, pc := pc + 4, locals := ls, stack := .ref T.heap.size :: .ref T.heap.size :: rest, locked := none }) rfl d4' _ hsteps
/-- 'throw new E("text")', the text by a wide index -/
theorem vx_throwSW {cc : ByteArray} {pc : Nat} (hexec : p.tables.exec = Jvm.exec) (hb : c.code = cc) (hl : l.stackTraces = false) {own cls text : String} {names : List String} {ik is ic mc ms sa : Nat} {A : Nat → Prop}
    (hown : s.vm.findClass own = some m.cls) (hcls : Bundle.fit cls = true) (hnames : ∀ n ∈ names, Bundle.fit n = true)
    (hk : (Cond.classLink own ik cls).before args s = true) (hini : (Cond.initialized cls).before args s = true) (hstr : vk_R own is text sa s) (hat : ∀ w ∈ vx_atS own ic cls names, w.before args s = true)
    (hgood : ∀ w ∈ Cond.classLink own ik cls :: Cond.initialized cls :: vx_atS own ic cls names, vx_ot w = true)
    (hU : vx_Zq Bundle.tN "UNASSIGNED_STACK" Bundle.steD A s s.heap) (hN : vx_Zq Bundle.tN "SUPPRESSED_SENTINEL" Bundle.listD A s s.heap) (hS : va_S A s.heap H locs) (hsize : ls.size = c.maxLocals)
    (d0 : decode cc pc = .ok (.new ik, 3)) (d3 : decode cc (pc + 3) = .ok (.dup, 1)) (d4 : decode cc (pc + 4) = .ok (.ldc_w is, 3)) (d7 : decode cc (pc + 7) = .ok (.invokespecial ic, 3)) (d10 : decode cc (pc + 10) = .ok (.athrow, 1))
    (hout : ∀ x ∈ c.exceptionTable.toList, covers x (pc + 10) = false)
    (hRframes : names.length + 3 < R.frames) (hRlocals : (rest.map fun v => v.category).sum + (13 * (names.length + 1) + 43) ≤ R.locals) (hRcells : cells + 1 ≤ R.cells) (hRslots : slots + 6 ≤ R.slots) (hlocks : meth.locks = false)
    (hx : ∀ t : State, s.vm.Alike t.vm → H.size ≤ t.heap.size → (∀ q : Nat, q < H.size → t.heap[q]? = H[q]?) → XC cls s t)
    (hf : ∀ z ∈ locs, free z.base) (hc : cells + 1 ≤ mc) (hs : slots + 6 ≤ ms) :
    W p l e R s m args below meth c H locs cells slots (vx_MQ below Qc XC args s mc ms free) (F0 m pc ls rest) := by
  intro T hT X
  have htr : e.platform.stackTraces = false := (show e.platform.stackTraces = l.stackTraces by rw [X.admits.platform]).trans hl
  have Y := vx_rebase X (R' := { frames := R.frames, locals := R.locals, cells := 1, slots := 6 }) (Nat.le_refl _) (Nat.le_refl _) hRcells hRslots
  obtain ⟨s', hA⟩ : ∃ z, z = (T.setVm s.vm).setFrames (.invoking m args :: below) := ⟨_, rfl⟩
  rw [← hA] at Y
  have hvm : s'.vm = s.vm := by rw [hA]; rfl
  have hhp : s'.heap = H := by rw [hA]; exact hT
  have hW0 : s.WarmedH s'.vm := by rw [hvm]; exact State.WarmedH.refl s
  have hat' : ∀ w ∈ vx_atS own ic cls names, w.before args s' = true := fun w hw => vx_ot_at hW0 hvm.symm (hgood w (List.mem_cons_of_mem _ (List.mem_cons_of_mem _ hw))) (hat w hw)
  have hk' : (Cond.classLink own ik cls).before args s' = true := vx_ot_at hW0 hvm.symm (hgood _ List.mem_cons_self) hk
  have hini' : (Cond.initialized cls).before args s' = true := vx_ot_at hW0 hvm.symm (hgood _ (List.mem_cons_of_mem _ List.mem_cons_self)) hini
  have hU' : vx_Zq Bundle.tN "UNASSIGNED_STACK" Bundle.steD A s' s'.heap := by rw [hhp]; exact vx_Zq.moved hW0.alike (hU.kept hS.2.1)
  have hN' : vx_Zq Bundle.tN "SUPPRESSED_SENTINEL" Bundle.listD A s' s'.heap := by rw [hhp]; exact vx_Zq.moved hW0.alike (hN.kept hS.2.1)
  have h : ∀ w ∈ Bundle.ownAtoms own ic cls names, w.before args s' = true := vx_own hat' (vx_isRefq hU'.1) (vx_isRefq hN'.1) hU'.2.word hN'.2.word
  have hown' : s'.vm.findClass own = some m.cls := by rw [hvm]; exact hown
  have hins : (Cond.instantiable cls 6).before args s' = true := h _ (by simp [Bundle.ownAtoms])
  obtain ⟨vm₁, cX, kX, hfX, hkX, -, -, X₁, st1⟩ := Y.newCold hexec (own := own) (C := cls) (index := ik) (n := 6) hown' hk' hins hini'
    (g := F0 m pc ls rest) rfl (by rw [hb]; exact d0) (Nat.le_refl _) (Nat.le_refl _)
  generalize hT1 : (T.setVm vm₁).pushCell { cls := cX, slots := kX.instanceTypes.map defaultValue, vm := .none } = T1 at X₁ st1
  have hcat : (Value.ref T.heap.size).category = 1 := rfl
  have hcellA : T1.heap[T.heap.size]? = some (freshCell cX kX) := by rw [← hT1]; exact State.heap_pushCell_size _ _
  have d3' : decode c.code (pc + 3) = .ok (.dup, 1) := by rw [hb]; exact d3
  have d4' : decode c.code (pc + 4) = .ok (.ldc_w is, 3) := by rw [hb]; exact d4
  have hstr' : vk_R own is text sa s' := vk_R.warm hW0 hstr
  obtain ⟨U, hsteps, hrun, hend, hW, hsame, ce, hce, hO⟩ := X₁.ctorThrowS hexec htr (own := own) (cls := cls) (names := names) (ic := ic) hown' hcls hnames h (fun x hx => nomatch hx) hfX hkX hcellA (by rw [hhp, hT]; exact Nat.le_refl _) (msg := .ref sa) rfl
    (g := { method := m, pc := pc + 7, locals := ls, stack := .ref sa :: .ref T.heap.size :: .ref T.heap.size :: rest, locked := none }) rfl hsize rfl rfl (rest := rest) rfl
    (by rw [hb]; exact d7) (by rw [hb]; exact d10) hout hRframes (by simp only [List.map_cons, List.sum_cons, hcat]; omega) hlocks
  obtain ⟨f1, f2⟩ := vx_frame hsame
  rw [hhp] at f1 f2
  have hWs : s.WarmedH U.vm := State.WarmedH.trans hW0 hW
  have hcl : s.vm.findClass cls = some ce.cls := by
    have h9 := hO.cls
    rw [hvm] at h9
    exact h9
  have hall : s.sameButNew ({ U with vm := s.vm } : State) locs mc ms := by
    subst hA
    obtain ⟨e1, e2⟩ := hsame
    rw [State.setFrames_setFrames] at e1
    have h2 : (T.setVm s.vm).sameButNew ({ U with vm := s.vm } : State) [] (0 + 1) (0 + 6) := ⟨e1, e2⟩
    have h3 := X.same.trans h2
    rw [List.append_nil] at h3
    exact h3.mono hc hs
  refine ⟨U, ?_, .threw T.heap.size, hrun, hend, Or.inr ⟨T.heap.size, rfl, cls, ce, locs, hx U hWs.alike f1 (fun q hq => f2 q hq (fun z hz => nomatch hz)), hce, hO.vm, hcl, hWs, hall, hf⟩⟩
  refine st1 _ ?_
  show Steps p.tables e below (T1.setTop { method := m, pc := pc + 3, locals := ls, stack := .ref T.heap.size :: rest, locked := none }) _
  jvm_step X₁.here [X₁.here.top, hexec, d3', Value.category]
  exact X₁.ldcStringW hexec (own := own) (text := text) (index := is) (a := sa) hown' hstr'.1 hstr'.2
    (g := { method := m, pc := pc + 4, locals := ls, stack := .ref T.heap.size :: .ref T.heap.size :: rest, locked := none }) rfl d4' _ hsteps
end Ends
section Bodies
variable {l : Launch}
theorem vx_ofW {y : MethodName} {ws ws' : List Cond} {rm : Room} {Pc : Array Value → State → Prop} {Qc : Array Value → State → Outcome → State → Prop} {XC : String → State → State → Prop} {mc ms : Nat} {free : Addr → Prop} {cc : ByteArray} {maxL : Nat} {ret : Option FieldType}
    (hy : plainName y.cls = true) (hw : ws = Cond.code y cc maxL ret :: ws')
    (body : ∀ p e s m args below meth c s₁, BodyLoose p l y (headSpec ws rm) cc maxL ret e s m args below meth c s₁ → c.maxLocals = maxL → (∀ x ∈ c.exceptionTable.toList, False) → Pc args s →
      W p l e (headSpec ws rm).room s m args below meth c s.heap [] 0 0 (vx_MQ below Qc XC args s mc ms free) (entryFrame m args maxL)) : vx_Met l y ws rm Pc Qc XC mc ms free := by
  refine MetFree.of_bodyS (code := cc) (maxLocals := maxL) (ret := ret) hy ?_ ?_
  · intro args s m h hn
    obtain ⟨meth, c, h1, h2, h3, h4, h5, h6, -, -⟩ := Cond.code_spec hn (atoms_spec (ws := ws) h _ (by rw [hw]; exact List.mem_cons_self))
    exact ⟨meth, c, h1, h2, h3, h4, h5, h6⟩
  · intro p e s m args below meth c s₁ B hml hP _
    have hh0 : s₁.heap = s.heap := by rw [B.state]; rfl
    have ht : ∀ x ∈ c.exceptionTable.toList, False := by
      obtain ⟨meth9, c9, h1, h2, -, -, -, -, h7, -⟩ := Cond.code_spec B.named (atoms_spec (ws := ws) B.pre _ (by rw [hw]; exact List.mem_cons_self))
      cases Option.some.inj (h1.symm.trans B.method)
      cases Option.some.inj (h2.symm.trans (Stand.of_body B).code)
      intro x hx
      rw [Array.isEmpty_iff.mp h7] at hx
      cases hx
    obtain ⟨t, a1, o, b1, b2, b3⟩ := body p e s m args below meth c s₁ B hml ht hP s₁ hh0 (Stand.of_body B)
    exact ⟨t, o, a1, b1, b2, b3⟩
/-- the table of a body with handlers -/
theorem vx_table {p : Program} {x y : MethodName} {S : Spec} {cc bytes : ByteArray} {maxL maxL' : Nat} {ret ret' : Option FieldType} {e : Env} {s s₁ : State} {m : MethodId} {args : Array Value} {below : List Frame} {meth : Method} {c : Code} {hh : List (Nat × Nat × Nat × Nat)}
    (B : BodyLoose p l y S cc maxL ret e s m args below meth c s₁) (h : (Cond.codeWith y bytes maxL' ret' hh).before args s = true) : c.exceptionTable.toList = tableOf hh := by
  obtain ⟨m9, meth9, c9, hn9, h1, h2, -, -, h6, -⟩ := Cond.codeWith_spec h
  cases Option.some.inj (hn9.symm.trans B.named)
  cases Option.some.inj (h1.symm.trans B.method)
  cases Option.some.inj (h2.symm.trans (Stand.of_body B).code)
  rw [← h6, table_eq]
end Bodies
end VXA
/-! ===== END ===== -/
/-! ===== BEGIN a static call of a method with an exception table ===== -/
section VXS
variable {p : Program} {l : Launch} {e : Env} {R : Room} {s : State} {m : MethodId} {args : Array Value} {below : List Frame} {meth : Method} {c : Code} {T : State} {H : Heap} {locs : List Loc} {cells slots : Nat}
abbrev vx_CSW (R : Room) (s : State) (args : Array Value) (own : String) (index : Nat) (y : MethodName) (bytes : ByteArray) (maxL : Nat) (ret : Option FieldType) (hh : List (Nat × Nat × Nat × Nat)) (ws : List Cond) (rm : Room) (mc ms n : Nat) : Prop :=
  (rm.cells = mc ∧ rm.slots = ms ∧ rm.frames + 1 ≤ R.frames ∧ 8 + (maxL + 11) + rm.locals ≤ R.locals ∧ (∀ w ∈ ws, ∀ (a' : Array Value) (U : State), s.WarmedH U.vm → w.before a' U = true) ∧ Cond.codeWith y bytes maxL ret hh ∈ ws) ∧
  (Cond.codeWith y bytes maxL ret hh).before args s = true ∧ (Cond.initialized y.cls).before args s = true ∧ (y.cls ≠ "java/lang/invoke/MethodHandle" ∧ y.cls ≠ "java/lang/invoke/VarHandle") ∧
  (∀ sig, parseMethodDescriptor y.desc = some sig → n = sig.parameters.length) ∧ (Cond.methodLink own index y).before args s = true ∧ (Cond.static y).before args s = true
theorem vx_cwSW {own : String} {index maxL mc ms : Nat} {y : MethodName} {bytes : ByteArray} {ret : Option FieldType} {hh : List (Nat × Nat × Nat × Nat)} {Ts ws ws' : List Cond} {rm : Room} (n : Nat) (ht : ∀ w ∈ Ts, w.before args s = true) (hT : GoodIn Ts (va_wsS own index y ws)) (hw : ws = Cond.codeWith y bytes maxL ret hh :: ws') (hrc : rm.cells = mc) (hrs : rm.slots = ms)
    (hd : y.cls ≠ "java/lang/invoke/MethodHandle" ∧ y.cls ≠ "java/lang/invoke/VarHandle" ∧ (parseMethodDescriptor y.desc).map (fun d => d.parameters.length) = some n) (hR : rm.frames + 1 ≤ R.frames ∧ 8 + (maxL + 11) + rm.locals ≤ R.locals) :
    vx_CSW R s args own index y bytes maxL ret hh ws rm mc ms n := by
  have ok : ∀ w ∈ va_wsS own index y ws, w.before args s = true := fun w h => ht w (hT w h).1
  have hG : GoodIn Ts ws := fun w h => hT w (by unfold va_wsS; exact List.mem_append_right _ h)
  have hc : Cond.codeWith y bytes maxL ret hh ∈ ws := by rw [hw]; exact List.mem_cons_self
  refine ⟨⟨hrc, hrs, hR.1, hR.2, pay_in ht hG, hc⟩, ht _ (hG _ hc).1, ok _ (by simp [va_wsS]), ⟨hd.1, hd.2.1⟩, fun sig h => ?_, ok _ (by simp [va_wsS]), ok _ (by simp [va_wsS])⟩
  have h2 := hd.2.2
  rw [h] at h2
  exact (Option.some.inj h2).symm
theorem vx_callSW (X : Stand p l e R s m args below meth c T locs cells slots) (hexec : p.tables.exec = Jvm.exec) {own : String} {index : Nat} {y : MethodName} {bytes : ByteArray} {maxL : Nat} {ret : Option FieldType} {hh : List (Nat × Nat × Nat × Nat)}
    (hown : s.vm.findClass own = some m.cls) (hlink : (Cond.methodLink own index y).before args s = true) (hstat : (Cond.static y).before args s = true) (hinit : (Cond.initialized y.cls).before args s = true)
    (hcode : (Cond.codeWith y bytes maxL ret hh).before args s = true) (hy : y.cls ≠ "java/lang/invoke/MethodHandle" ∧ y.cls ≠ "java/lang/invoke/VarHandle")
    {W9 : Nat} {Pre : Pt → Array Value → Prop} {Post : Pt → Array Value → Option Value → Pt → Prop} (hK : Back l R p e below s args y 3 W9 Pre Post)
    {g : JFrame} (hg : g.method = m) (hsize : g.locals.size = c.maxLocals) {argsL rest : List Value} (hlen : ∀ sig, parseMethodDescriptor y.desc = some sig → argsL.length = sig.parameters.length)
    (hstack : g.stack = argsL.reverse ++ rest) (hW : 2 * g.monitorRoom + (rest.map fun v => v.category).sum ≤ W9) (hdg : decode c.code g.pc = .ok (.invokestatic index, 3))
    (hpre : ∀ vm₁, s.WarmedH vm₁ → Pre ⟨T.setVm vm₁, locs, cells, slots⟩ argsL.toArray) :
    ∃ (v : Option Value) (vm₁ : Vm) (B : Pt), s.WarmedH vm₁ ∧ Stand p l e R s m args below meth c B.U B.locs B.cells B.slots ∧ Post ⟨T.setVm vm₁, locs, cells, slots⟩ argsL.toArray v B ∧
      ∀ target, Steps p.tables e below (B.U.setTop { g with pc := g.pc + 3, stack := v.toList ++ rest }) target → Steps p.tables e below (T.setTop g) target := by
  obtain ⟨mk, methM, cM, hnamed, hmethM, -, -, -, -, -, -, hsigM⟩ := Cond.codeWith_spec hcode
  have hstatic : methM.isStatic = true := Cond.static_spec hnamed hmethM hstat
  obtain ⟨kP, hkP, -⟩ := className_of_methodNamed hnamed
  have hinitP : kP.init = .initialized := Cond.initialized_spec (findClass_of_methodNamed hnamed) hkP hinit
  obtain ⟨vm₁, X₁, hstep₁⟩ := X.invokestatic hexec hown hlink hnamed hmethM hstatic hkP hinitP hy (g := g) hg (argsL := argsL) (rest := rest) (hlen _ hsigM) hstack hdg
  obtain ⟨v, B, X', hpost, hsteps⟩ := hK m meth c ⟨T.setVm vm₁, locs, cells, slots⟩ { g with stack := rest } (.invokestatic index) mk argsL.toArray X₁ hg hsize hdg hW (X₁.named hnamed) (hpre vm₁ X₁.warmed)
  exact ⟨v, vm₁, B, X₁.warmed, X', hpost, fun target h => hstep₁ _ fun acts => by rw [doInvoke_state]; exact hsteps.trans h⟩
theorem vx_runSW {y : MethodName} {bytes cc : ByteArray} {maxL nL mc ms n index : Nat} {ret : Option FieldType} {hh : List (Nat × Nat × Nat × Nat)} {ws : List Cond} {rm : Room} {Pc : Array Value → State → Prop} {Qc : Array Value → State → Outcome → State → Prop} {free : Addr → Prop} {Ts : List Cond} {own : String} {As rest : List Value} {g : JFrame}
    (S : CallFix p m c cc nL s args Ts own) (hM : Met l y ws rm Pc Qc mc ms free) (cw : vx_CSW R s args own index y bytes maxL ret hh ws rm mc ms n) (hp : PreS s H Pc As)
    (hg : g.method = m) (hn : As.length = n) (hsize : g.locals.size = nL) (hstack : g.stack = As.reverse ++ rest) (hW : 2 * g.monitorRoom + (rest.map fun v => v.category).sum ≤ 8) (hdg : decode cc g.pc = .ok (.invokestatic index, 3)) (hf : cells + mc ≤ R.cells ∧ slots + ms ≤ R.slots) :
    va_Run p l e R s m args below meth c H locs cells slots mc ms g rest (Qc As.toArray) (free) := by
  obtain ⟨⟨hrc, hrs, hfr, hlo, hws, hcw⟩, hcode, hini, hy, hlen, hl, hstt⟩ := cw
  have hK : Back l R p e below s args y 3 8 (PreOf R mc ms Pc) (PostOf Qc mc ms free) := va_backW (hh := hh) (bytes := bytes) (maxL := maxL) (ret := ret) hM hp.1 hrc hrs hfr hlo hws hcw (fun a' U hW => word_at hW (Or.inl (by first | rfl | simp [Cond.onTables, Cond.keeps, Cond.steady])) hini)
  obtain ⟨hx, hb, hml, ho, -⟩ := S
  intro T hT X
  obtain ⟨v, vm₁, ⟨U', l2, c2, s2⟩, hW₁, X', ⟨g', mk, t, L, e1, e2, hq, h1, hL, h2, h3⟩, st⟩ := vx_callSW X hx (hh := hh) (bytes := bytes) (maxL := maxL) (ret := ret) ho hl hstt hini hcode hy hK hg (hsize.trans hml.symm) (argsL := As) (rest := rest) (fun sig h => hn.trans (hlen sig h)) hstack hW (by rw [hb]; exact hdg)
    (fun vm₁ hW₁ => ⟨hf.1, hf.2, hp.2 (T.setVm vm₁) hT hW₁⟩)
  dsimp only [Pt.U, Pt.locs, Pt.cells, Pt.slots] at X' e1 e2 h1 h2 h3 st
  subst h1; subst h2; subst h3
  exact ⟨v, (T.setVm vm₁).calling g' mk As.toArray, t, U', L, hT, X', hL, e1, e2, hq, st⟩
/-- not caught here, past rows that name other classes: it goes on to the caller -/
theorem vx_outP {p : Program} {l : Launch} {e : Env} {R : Room} {s : State} {m : MethodId} {args : Array Value} {below : List Frame} {meth : Method} {c : Code} {H : Heap} {locs : List Loc} {cells slots : Nat} {free : Addr → Prop} {ls : Array Slot} {rest : List Value} {Qc : Array Value → State → Outcome → State → Prop} {XC : String → State → State → Prop}
    {pc : Nat} {own E : String} {ce : Cell} {q : Addr} {mc ms : Nat} (hown : s.vm.findClass own = some m.cls) (hlocks : meth.locks = false)
    (hpass : ∀ z ∈ c.exceptionTable.toList, covers z pc = false ∨ (z.catchType ≠ 0 ∧ ∃ nm : String, (Cond.classLink own z.catchType nm).before args s = true ∧ va_Nc E nm s)) (hcell : H[q]? = some ce) (hv : ce.vm = .none) (hcl : s.vm.findClass E = some ce.cls)
    (hx : ∀ t : State, t.heap = H → s.vm.Alike t.vm → XC E s t) (hf : ∀ z ∈ locs, free z.base) (hc : cells ≤ mc) (hs : slots ≤ ms) :
    vx_W p l e R s m args below meth c H locs cells slots (vx_MQ below Qc XC args s mc ms free) (F0 m pc ls rest) q := by
  intro T hT X
  have hpl : e.platform.magicAccessors = ({} : Platform).magicAccessors := by rw [X.admits.platform]
  obtain ⟨vm', hW', X', st⟩ := Stand.outThrough X hlocks q (g := F0 m pc ls rest) rfl rfl rfl (cell := ce) (by rw [hT]; exact hcell) (by rw [hv]; rfl)
    (by obtain ⟨k9, h9, -⟩ := Vm.findClass_spec hcl; exact ⟨k9, h9⟩) (fun z hz => by
      rcases hpass z hz with h | ⟨hz0, nm, hl1, hn1⟩
      · exact Or.inl h
      · obtain ⟨c6, hc6, hcl6⟩ := Cond.classLink_spec hown hl1 e.platform hpl
        obtain ⟨a8, b8, h1, h2, h3⟩ := hn1
        cases Option.some.inj (h1.symm.trans hcl)
        cases Option.some.inj (h2.symm.trans hc6)
        exact Or.inr ⟨hz0, _, hcl6, h3⟩)
  obtain ⟨g₀, hfr⟩ := X'.frames_eq
  have hcell9 : ((T.setVm vm').setFrames (.throwing q :: below)).heap[q]? = some ce := by
    show T.heap[q]? = some ce
    rw [hT]; exact hcell
  have hend : Ended ((T.setVm vm').setFrames (.throwing q :: below)) below (.threw q) := State.frames_setFrames _ (State.cur_lt_of_frames hfr)
  refine ⟨(T.setVm vm').setFrames (.throwing q :: below), ?_, .threw q, X'.here.running, hend, Or.inr ⟨q, rfl, E, ce, locs, hx _ hT (X'.ends _).1.alike, hcell9, hv, hcl, (X'.ends _).1, (X'.ends _).2.mono hc hs, hf⟩⟩
  rw [X.pushThrowing_eq]
  exact st
/-- a thing of a world lies in the heap -/
theorem vx_lt {D : va_G} {cl : List vw_C} {ws : va_W} {H1 : Heap} (h : va_P D cl ws H1) {k : Nat} {q : Nat × va_E} (hk : ws[k]? = some q) : q.1 < H1.size := (h k q hk).lt
end VXS
/-! ===== END ===== -/
/-! ===== BEGIN methods with a table of their own: called by a name, returning or throwing ===== -/
section VXH
/-! vx_backW, vx_callVX, vx_callSX, vx_callVW, vx_runVW, vx_runVX, vx_runSX, vx_ofWH follow the same proofs as their sisters above (Free/Laws.lean, Shelf42/LK1.lean); vx_outP calls Shelf42/NT130.lean (outThrough). -/
section
variable {l : Launch} {R : Room} {p : Program} {e : Env} {below : List Frame} {s : State} {sargs : Array Value} {y : MethodName} {len W9 : Nat}
theorem vx_backW {ws : List Cond} {rm : Room} {Pc : Array Value → State → Prop} {Qc : Array Value → State → Outcome → State → Prop} {XC : String → State → State → Prop} {mc ms : Nat} {free : Addr → Prop} {bytes : ByteArray} {maxL : Nat} {ret : Option FieldType} {hh : List (Nat × Nat × Nat × Nat)}
    (hM : vx_Met l y ws rm Pc Qc XC mc ms free) (hblind : FrameBlind Pc) (hrc : rm.cells = mc) (hrs : rm.slots = ms)
    (hframes : rm.frames + 1 ≤ R.frames) (hlocals : W9 + (maxL + 11) + rm.locals ≤ R.locals)
    (hws : ∀ w ∈ ws, ∀ a' U, s.WarmedH U.vm → w.before a' U = true) (hcode : Cond.codeWith y bytes maxL ret hh ∈ ws) (hinit : ∀ a' U, s.WarmedH U.vm → (Cond.initialized y.cls).before a' U = true) :
    vx_Back l R p e below s sargs y len W9 (PreOf R mc ms Pc) (PostOf Qc mc ms free) (vx_Post XC mc ms free) := by
  intro m meth c A g ig mk a X hg hsize hdg hW hn hp
  have h1 : (headSpec ws rm).pre.before a A.U = true := atoms_intro fun w hw => hws w hw _ _ X.warmed
  have h2 : (Cond.codeWith y bytes maxL ret hh).before a A.U = true := hws _ hcode _ _ X.warmed
  have h3 : (Cond.initialized y.cls).before a A.U = true := hinit _ _ X.warmed
  have h4 : A.cells + (headSpec ws rm).room.cells ≤ R.cells := by rw [show (headSpec ws rm).room.cells = mc from hrc]; exact hp.1
  have h5 : A.slots + (headSpec ws rm).room.slots ≤ R.slots := by rw [show (headSpec ws rm).room.slots = ms from hrs]; exact hp.2.1
  have hPc : Pc a (A.U.calling g mk a) := hblind _ _ _ _ hp.2.2
  obtain ⟨U, Ls, c0, s0⟩ := A
  dsimp only [Pt.U, Pt.locs, Pt.cells, Pt.slots] at h1 h2 h3 h4 h5 X hn hPc ⊢
  obtain ⟨m9, methY, cY, hn9, hmY, hcY, -, hlY, -⟩ := Cond.codeWith_spec h2
  cases Option.some.inj (hn9.symm.trans hn)
  obtain ⟨kY, hkY, -⟩ := className_of_methodNamed hn
  have hinitY : kY.init = .initialized := Cond.initialized_spec (findClass_of_methodNamed hn) hkY h3
  have h : At U g.method c below := by rw [hg]; exact X.here
  have hlocals9 : W9 + (maxL + 11) + (headSpec ws rm).room.locals ≤ R.locals := hlocals
  have happ : (headSpec ws rm).appliesLoose y e.platform (U.calling g mk a) = true :=
    Spec.appliesLoose_calling (g := g) h hdg hn hkY hinitY
      (X.room_calling (g := g) (R' := (headSpec ws rm).room) hsize hmY hcY hframes (by rw [hlY]; omega) h4 h5) h1
  obtain ⟨mid, hmid⟩ := h.above
  have hfr : (U.setTop g).frames = (.java g :: mid) ++ below := by rw [State.frames_setTop' g h.top, hmid]; rfl
  obtain ⟨o, s₂, hsteps, -, hend, hq⟩ := Steps.callFree hM p X.admits X.cas X.clock (acts := []) hfr happ hPc trivial
  have hq' : vx_Q Qc XC mc ms free a (U.calling g mk a) o s₂ := hq
  rw [State.frames_setTop' g h.top] at hend
  obtain ⟨g₀, hg0⟩ := Option.isSome_iff_exists.mp h.top
  obtain ⟨r, hr⟩ := State.topJava?_eq_some.mp hg0
  have hr' : (({ U with heap := s₂.heap, slotsUsed := s₂.slotsUsed } : State).setVm s₂.vm).frames = .java g₀ :: r := hr
  rcases hq' with ⟨hqc, L, hfe, hL⟩ | ⟨q, rfl, E, ce, L, hx, hce, hcv, hcl, hW₂, hsm, hL⟩
  · obtain ⟨⟨v, rfl⟩, hW₂, e2, q2, q3, q4, q5, q6⟩ := id hfe
    have e3 : s₂ = ({ (U.calling g mk a).setFrames s₂.frames with heap := s₂.heap, slotsUsed := s₂.slotsUsed } : State).setVm s₂.vm := by
      have : s₂ = ({ s₂ with vm := (U.calling g mk a).vm } : State).setVm s₂.vm := rfl
      rw [e2] at this
      exact this
    obtain ⟨c₂, i₂, len₂, hc₂, hd₂, hf₂⟩ := hend
    have hW' : U.WarmedH s₂.vm := hW₂
    have hcc : c₂ = c := by
      have h1 : s₂.code? g.method = U.code? g.method := by
        rw [State.code?_eq, State.code?_eq, hW'.alike.method?]
      exact Option.some.inj (hc₂.symm.trans (h1.trans h.code))
    subst hcc
    have hlen : len₂ = len := by rw [hdg] at hd₂; cases hd₂; rfl
    subst hlen
    have hs₂ : s₂ = (({ U with heap := s₂.heap, slotsUsed := s₂.slotsUsed } : State).setVm s₂.vm).setTop { g with pc := g.pc + len₂, stack := v.toList ++ g.stack } := by
      refine e3.trans ?_
      rw [hf₂, State.calling_eq h.top, State.setFrames_setFrames, State.setTop_of_frames _ hr', hr]
      rfl
    have hsame : U.sameButNew ({ U with heap := s₂.heap, slotsUsed := s₂.slotsUsed } : State) L mc ms := by
      refine ⟨?_, q2, q3, q4, q5, q6⟩
      obtain ⟨t, ht, -⟩ := State.frames_cons hr
      show ({ U with heap := s₂.heap, slotsUsed := s₂.slotsUsed } : State) = { U.setFrames U.frames with heap := s₂.heap, slotsUsed := s₂.slotsUsed }
      rw [State.setFrames_self ht]
    subst hg
    refine Or.inl ⟨v, ⟨(({ U with heap := s₂.heap, slotsUsed := s₂.slotsUsed } : State).setVm s₂.vm), Ls ++ L, c0 + mc, s0 + ms⟩,
      ⟨X.admits, X.cas, X.clock, X.frames, X.room, X.hears, X.method, X.code, (X.here.setHeapUsed s₂.heap s₂.slotsUsed).setVm hW'.alike, X.tail, State.WarmedH.trans X.warmed hW', X.limits, X.bytes, X.same.trans (hsame.setVm s.vm)⟩,
      ⟨g, mk, s₂, L, rfl, rfl, hqc, rfl, hL, rfl, rfl⟩, ?_⟩
    show Steps p.tables e below _ ((({ U with heap := s₂.heap, slotsUsed := s₂.slotsUsed } : State).setVm s₂.vm).setTop { g with pc := g.pc + len₂, stack := v.toList ++ g.stack })
    rw [← hs₂]
    exact hsteps
  · obtain ⟨e2, q2, q3, q4, q5, q6⟩ := id hsm
    have e3 : s₂ = ({ (U.calling g mk a).setFrames s₂.frames with heap := s₂.heap, slotsUsed := s₂.slotsUsed } : State).setVm s₂.vm := by
      have : s₂ = ({ s₂ with vm := (U.calling g mk a).vm } : State).setVm s₂.vm := rfl
      rw [e2] at this
      exact this
    have hf₂ : s₂.frames = .throwing q :: .java g :: U.frames.tail := hend
    have hW' : U.WarmedH s₂.vm := hW₂
    have hs₂ : s₂ = ((({ U with heap := s₂.heap, slotsUsed := s₂.slotsUsed } : State).setVm s₂.vm).setTop g).pushFrame (.throwing q) := by
      refine e3.trans ?_
      rw [hf₂, State.calling_eq h.top, State.setFrames_setFrames, State.pushFrame, State.frames_setTop _ hr', State.setTop_of_frames _ hr', State.setFrames_setFrames, hr]
      rfl
    have hsame : U.sameButNew ({ U with heap := s₂.heap, slotsUsed := s₂.slotsUsed } : State) L mc ms := by
      refine ⟨?_, q2, q3, q4, q5, q6⟩
      obtain ⟨t, ht, -⟩ := State.frames_cons hr
      show ({ U with heap := s₂.heap, slotsUsed := s₂.slotsUsed } : State) = { U.setFrames U.frames with heap := s₂.heap, slotsUsed := s₂.slotsUsed }
      rw [State.setFrames_self ht]
    subst hg
    refine Or.inr ⟨q, ⟨(({ U with heap := s₂.heap, slotsUsed := s₂.slotsUsed } : State).setVm s₂.vm), Ls ++ L, c0 + mc, s0 + ms⟩,
      ⟨X.admits, X.cas, X.clock, X.frames, X.room, X.hears, X.method, X.code, (X.here.setHeapUsed s₂.heap s₂.slotsUsed).setVm hW'.alike, X.tail, State.WarmedH.trans X.warmed hW', X.limits, X.bytes, X.same.trans (hsame.setVm s.vm)⟩,
      ⟨g, mk, s₂, L, E, ce, rfl, rfl, hx, hce, hcv, hcl, rfl, hL, rfl, rfl⟩, ?_⟩
    show Steps p.tables e below _ (((({ U with heap := s₂.heap, slotsUsed := s₂.slotsUsed } : State).setVm s₂.vm).setTop g).pushFrame (.throwing q))
    rw [← hs₂]
    exact hsteps
end
variable {p : Program} {l : Launch} {e : Env} {R : Room} {s : State} {m : MethodId} {args : Array Value} {below : List Frame} {meth : Method} {c : Code} {T : State} {H : Heap} {locs : List Loc} {cells slots : Nat}
theorem vx_callVX (X : Stand p l e R s m args below meth c T locs cells slots) (hexec : p.tables.exec = Jvm.exec) {own C : String} {index : Nat} {y : MethodName} {bytes : ByteArray} {maxL : Nat} {ret : Option FieldType} {hh : List (Nat × Nat × Nat × Nat)}
    (hown : s.vm.findClass own = some m.cls) (hlink : (Cond.methodLink own index y).before args s = true) (hinst : (Cond.instanceMethod y).before args s = true) (hsel : (Cond.selects C y y).before args s = true)
    (hcode : (Cond.codeWith y bytes maxL ret hh).before args s = true) (hy : y.cls ≠ "java/lang/invoke/MethodHandle" ∧ y.cls ≠ "java/lang/invoke/VarHandle")
    {W9 : Nat} {Pre : Pt → Array Value → Prop} {Post : Pt → Array Value → Option Value → Pt → Prop} {PostX : Pt → Array Value → Addr → Pt → Prop} (hK : vx_Back l R p e below s args y 3 W9 Pre Post PostX)
    {b : Addr} {cellB : Cell} (hcell : T.heap[b]? = some cellB) (hobj : cellB.vm.isStatics = false) (hcls : s.vm.findClass C = some cellB.cls)
    {g : JFrame} (hg : g.method = m) (hsize : g.locals.size = c.maxLocals) {argsL rest : List Value} (hlen : ∀ sig, parseMethodDescriptor y.desc = some sig → argsL.length = sig.parameters.length)
    (hstack : g.stack = argsL.reverse ++ .ref b :: rest) (hW : 2 * g.monitorRoom + (rest.map fun v => v.category).sum ≤ W9) (hdg : decode c.code g.pc = .ok (.invokevirtual index, 3))
    (hpre : ∀ vm₁, s.WarmedH vm₁ → Pre ⟨T.setVm vm₁, locs, cells, slots⟩ (Value.ref b :: argsL).toArray) :
    (∃ (v : Option Value) (vm₁ : Vm) (B : Pt), s.WarmedH vm₁ ∧ Stand p l e R s m args below meth c B.U B.locs B.cells B.slots ∧ Post ⟨T.setVm vm₁, locs, cells, slots⟩ (Value.ref b :: argsL).toArray v B ∧
      ∀ target, Steps p.tables e below (B.U.setTop { g with pc := g.pc + 3, stack := v.toList ++ rest }) target → Steps p.tables e below (T.setTop g) target) ∨
    (∃ (q : Addr) (vm₁ : Vm) (B : Pt), s.WarmedH vm₁ ∧ Stand p l e R s m args below meth c B.U B.locs B.cells B.slots ∧ PostX ⟨T.setVm vm₁, locs, cells, slots⟩ (Value.ref b :: argsL).toArray q B ∧
      Steps p.tables e below (T.setTop g) ((B.U.setTop { g with stack := rest }).pushFrame (.throwing q))) := by
  obtain ⟨mk, methM, hnamed, hmethM, hstM, habM⟩ := Cond.instanceMethod_spec hinst
  obtain ⟨m8, methM', cM, hn8, hmethM', -, -, -, -, -, -, hsigM⟩ := Cond.codeWith_spec hcode
  cases Option.some.inj (hn8.symm.trans hnamed)
  cases hmethM.symm.trans hmethM'
  obtain ⟨c2, r2, m2, q1, q2, q3, q4, kP, hkP, hkPi⟩ := Cond.selects_spec hsel
  cases hcls.symm.trans q1
  cases (State.methodFound?_of_named hnamed hy).symm.trans q2
  cases hnamed.symm.trans q3
  have hselP : selectMethod e.platform s.vm cellB.cls mk = .method mk := by rw [Launch.admits_selectMethod X.admits]; exact q4
  obtain ⟨vm₁, X₁, hstep₁⟩ := X.invokevirtual hexec hown hlink hnamed hmethM hstM hkP hkPi hy (a := b) (cell := cellB) hcell
    (fun z h => by rw [h] at hobj; cases hobj) hselP hmethM habM hkP hkPi (g := g) hg (argsL := argsL) (rest := rest) (hlen _ hsigM) hstack hdg
  rcases hK m meth c ⟨T.setVm vm₁, locs, cells, slots⟩ { g with stack := rest } (.invokevirtual index) mk (Value.ref b :: argsL).toArray X₁ hg hsize hdg hW (X₁.named hnamed) (hpre vm₁ X₁.warmed) with ⟨v, B, X', hpost, hsteps⟩ | ⟨q, B, X', hpost, hsteps⟩
  · exact Or.inl ⟨v, vm₁, B, X₁.warmed, X', hpost, fun target h => hstep₁ _ fun acts => by rw [doInvoke_state]; exact hsteps.trans h⟩
  · exact Or.inr ⟨q, vm₁, B, X₁.warmed, X', hpost, hstep₁ _ fun acts => by rw [doInvoke_state]; exact hsteps⟩
theorem vx_callSX (X : Stand p l e R s m args below meth c T locs cells slots) (hexec : p.tables.exec = Jvm.exec) {own : String} {index : Nat} {y : MethodName} {bytes : ByteArray} {maxL : Nat} {ret : Option FieldType} {hh : List (Nat × Nat × Nat × Nat)}
    (hown : s.vm.findClass own = some m.cls) (hlink : (Cond.methodLink own index y).before args s = true) (hstat : (Cond.static y).before args s = true) (hinit : (Cond.initialized y.cls).before args s = true)
    (hcode : (Cond.codeWith y bytes maxL ret hh).before args s = true) (hy : y.cls ≠ "java/lang/invoke/MethodHandle" ∧ y.cls ≠ "java/lang/invoke/VarHandle")
    {W9 : Nat} {Pre : Pt → Array Value → Prop} {Post : Pt → Array Value → Option Value → Pt → Prop} {PostX : Pt → Array Value → Addr → Pt → Prop} (hK : vx_Back l R p e below s args y 3 W9 Pre Post PostX)
    {g : JFrame} (hg : g.method = m) (hsize : g.locals.size = c.maxLocals) {argsL rest : List Value} (hlen : ∀ sig, parseMethodDescriptor y.desc = some sig → argsL.length = sig.parameters.length)
    (hstack : g.stack = argsL.reverse ++ rest) (hW : 2 * g.monitorRoom + (rest.map fun v => v.category).sum ≤ W9) (hdg : decode c.code g.pc = .ok (.invokestatic index, 3))
    (hpre : ∀ vm₁, s.WarmedH vm₁ → Pre ⟨T.setVm vm₁, locs, cells, slots⟩ argsL.toArray) :
    (∃ (v : Option Value) (vm₁ : Vm) (B : Pt), s.WarmedH vm₁ ∧ Stand p l e R s m args below meth c B.U B.locs B.cells B.slots ∧ Post ⟨T.setVm vm₁, locs, cells, slots⟩ argsL.toArray v B ∧
      ∀ target, Steps p.tables e below (B.U.setTop { g with pc := g.pc + 3, stack := v.toList ++ rest }) target → Steps p.tables e below (T.setTop g) target) ∨
    (∃ (q : Addr) (vm₁ : Vm) (B : Pt), s.WarmedH vm₁ ∧ Stand p l e R s m args below meth c B.U B.locs B.cells B.slots ∧ PostX ⟨T.setVm vm₁, locs, cells, slots⟩ argsL.toArray q B ∧
      Steps p.tables e below (T.setTop g) ((B.U.setTop { g with stack := rest }).pushFrame (.throwing q))) := by
  obtain ⟨mk, methM, cM, hnamed, hmethM, -, -, -, -, -, -, hsigM⟩ := Cond.codeWith_spec hcode
  have hstatic : methM.isStatic = true := Cond.static_spec hnamed hmethM hstat
  obtain ⟨kP, hkP, -⟩ := className_of_methodNamed hnamed
  have hinitP : kP.init = .initialized := Cond.initialized_spec (findClass_of_methodNamed hnamed) hkP hinit
  obtain ⟨vm₁, X₁, hstep₁⟩ := X.invokestatic hexec hown hlink hnamed hmethM hstatic hkP hinitP hy (g := g) hg (argsL := argsL) (rest := rest) (hlen _ hsigM) hstack hdg
  rcases hK m meth c ⟨T.setVm vm₁, locs, cells, slots⟩ { g with stack := rest } (.invokestatic index) mk argsL.toArray X₁ hg hsize hdg hW (X₁.named hnamed) (hpre vm₁ X₁.warmed) with ⟨v, B, X', hpost, hsteps⟩ | ⟨q, B, X', hpost, hsteps⟩
  · exact Or.inl ⟨v, vm₁, B, X₁.warmed, X', hpost, fun target h => hstep₁ _ fun acts => by rw [doInvoke_state]; exact hsteps.trans h⟩
  · exact Or.inr ⟨q, vm₁, B, X₁.warmed, X', hpost, hstep₁ _ fun acts => by rw [doInvoke_state]; exact hsteps⟩
theorem vx_callVW (X : Stand p l e R s m args below meth c T locs cells slots) (hexec : p.tables.exec = Jvm.exec) {own C : String} {index : Nat} {y : MethodName} {bytes : ByteArray} {maxL : Nat} {ret : Option FieldType} {hh : List (Nat × Nat × Nat × Nat)}
    (hown : s.vm.findClass own = some m.cls) (hlink : (Cond.methodLink own index y).before args s = true) (hinst : (Cond.instanceMethod y).before args s = true) (hsel : (Cond.selects C y y).before args s = true)
    (hcode : (Cond.codeWith y bytes maxL ret hh).before args s = true) (hy : y.cls ≠ "java/lang/invoke/MethodHandle" ∧ y.cls ≠ "java/lang/invoke/VarHandle")
    {W9 : Nat} {Pre : Pt → Array Value → Prop} {Post : Pt → Array Value → Option Value → Pt → Prop} (hK : Back l R p e below s args y 3 W9 Pre Post)
    {b : Addr} {cellB : Cell} (hcell : T.heap[b]? = some cellB) (hobj : cellB.vm.isStatics = false) (hcls : s.vm.findClass C = some cellB.cls)
    {g : JFrame} (hg : g.method = m) (hsize : g.locals.size = c.maxLocals) {argsL rest : List Value} (hlen : ∀ sig, parseMethodDescriptor y.desc = some sig → argsL.length = sig.parameters.length)
    (hstack : g.stack = argsL.reverse ++ .ref b :: rest) (hW : 2 * g.monitorRoom + (rest.map fun v => v.category).sum ≤ W9) (hdg : decode c.code g.pc = .ok (.invokevirtual index, 3))
    (hpre : ∀ vm₁, s.WarmedH vm₁ → Pre ⟨T.setVm vm₁, locs, cells, slots⟩ (Value.ref b :: argsL).toArray) :
    ∃ (v : Option Value) (vm₁ : Vm) (B : Pt), s.WarmedH vm₁ ∧ Stand p l e R s m args below meth c B.U B.locs B.cells B.slots ∧ Post ⟨T.setVm vm₁, locs, cells, slots⟩ (Value.ref b :: argsL).toArray v B ∧
      ∀ target, Steps p.tables e below (B.U.setTop { g with pc := g.pc + 3, stack := v.toList ++ rest }) target → Steps p.tables e below (T.setTop g) target := by
  obtain ⟨mk, methM, hnamed, hmethM, hstM, habM⟩ := Cond.instanceMethod_spec hinst
  obtain ⟨m8, methM', cM, hn8, hmethM', -, -, -, -, -, -, hsigM⟩ := Cond.codeWith_spec hcode
  cases Option.some.inj (hn8.symm.trans hnamed)
  cases hmethM.symm.trans hmethM'
  obtain ⟨c2, r2, m2, q1, q2, q3, q4, kP, hkP, hkPi⟩ := Cond.selects_spec hsel
  cases hcls.symm.trans q1
  cases (State.methodFound?_of_named hnamed hy).symm.trans q2
  cases hnamed.symm.trans q3
  have hselP : selectMethod e.platform s.vm cellB.cls mk = .method mk := by rw [Launch.admits_selectMethod X.admits]; exact q4
  obtain ⟨vm₁, X₁, hstep₁⟩ := X.invokevirtual hexec hown hlink hnamed hmethM hstM hkP hkPi hy (a := b) (cell := cellB) hcell
    (fun z h => by rw [h] at hobj; cases hobj) hselP hmethM habM hkP hkPi (g := g) hg (argsL := argsL) (rest := rest) (hlen _ hsigM) hstack hdg
  obtain ⟨v, B, X', hpost, hsteps⟩ := hK m meth c ⟨T.setVm vm₁, locs, cells, slots⟩ { g with stack := rest } (.invokevirtual index) mk (Value.ref b :: argsL).toArray X₁ hg hsize hdg hW (X₁.named hnamed) (hpre vm₁ X₁.warmed)
  exact ⟨v, vm₁, B, X₁.warmed, X', hpost, fun target h => hstep₁ _ fun acts => by rw [doInvoke_state]; exact hsteps.trans h⟩
abbrev vx_CVW (R : Room) (s : State) (args : Array Value) (own C : String) (index : Nat) (y : MethodName) (bytes : ByteArray) (maxL : Nat) (ret : Option FieldType) (hh : List (Nat × Nat × Nat × Nat)) (ws : List Cond) (rm : Room) (mc ms n : Nat) : Prop :=
  (rm.cells = mc ∧ rm.slots = ms ∧ rm.frames + 1 ≤ R.frames ∧ 8 + (maxL + 11) + rm.locals ≤ R.locals ∧ (∀ w ∈ ws, ∀ (a' : Array Value) (U : State), s.WarmedH U.vm → w.before a' U = true) ∧ Cond.codeWith y bytes maxL ret hh ∈ ws) ∧
  (Cond.codeWith y bytes maxL ret hh).before args s = true ∧ (Cond.initialized y.cls).before args s = true ∧ (y.cls ≠ "java/lang/invoke/MethodHandle" ∧ y.cls ≠ "java/lang/invoke/VarHandle") ∧
  (∀ sig, parseMethodDescriptor y.desc = some sig → n = sig.parameters.length) ∧ (Cond.methodLink own index y).before args s = true ∧ (Cond.instanceMethod y).before args s = true ∧ (Cond.selects C y y).before args s = true
theorem vx_cwVW {own C : String} {index maxL mc ms : Nat} {y : MethodName} {bytes : ByteArray} {ret : Option FieldType} {hh : List (Nat × Nat × Nat × Nat)} {Ts ws ws' : List Cond} {rm : Room} (n : Nat) (ht : ∀ w ∈ Ts, w.before args s = true) (hT : GoodIn Ts (wsV own index C y ws)) (hw : ws = Cond.codeWith y bytes maxL ret hh :: ws') (hrc : rm.cells = mc) (hrs : rm.slots = ms)
    (hd : y.cls = C ∧ y.cls ≠ "java/lang/invoke/MethodHandle" ∧ y.cls ≠ "java/lang/invoke/VarHandle" ∧ (parseMethodDescriptor y.desc).map (fun d => d.parameters.length) = some n) (hR : rm.frames + 1 ≤ R.frames ∧ 8 + (maxL + 11) + rm.locals ≤ R.locals) :
    vx_CVW R s args own C index y bytes maxL ret hh ws rm mc ms n := by
  obtain ⟨hC, hd⟩ := hd
  subst hC
  have ok : ∀ w ∈ wsV own index y.cls y ws, w.before args s = true := fun w h => ht w (hT w h).1
  have hG : GoodIn Ts ws := fun w h => hT w (by unfold wsV; exact List.mem_append_right _ h)
  have hc : Cond.codeWith y bytes maxL ret hh ∈ ws := by rw [hw]; exact List.mem_cons_self
  refine ⟨⟨hrc, hrs, hR.1, hR.2, pay_in ht hG, hc⟩, ht _ (hG _ hc).1, ok _ (by simp [wsV]), ⟨hd.1, hd.2.1⟩, fun sig h => ?_, ok _ (by simp [wsV]), ok _ (by simp [wsV]), ok _ (by simp [wsV])⟩
  have h2 := hd.2.2
  rw [h] at h2
  exact (Option.some.inj h2).symm
theorem vx_runVW {y : MethodName} {bytes cc : ByteArray} {maxL nL mc ms n index : Nat} {ret : Option FieldType} {hh : List (Nat × Nat × Nat × Nat)} {ws : List Cond} {rm : Room} {Pc : Array Value → State → Prop} {Qc : Array Value → State → Outcome → State → Prop} {free : Addr → Prop} {Ts : List Cond} {own C : String} {b : Addr} {As rest : List Value} {g : JFrame}
    (S : CallFix p m c cc nL s args Ts own) (hM : Met l y ws rm Pc Qc mc ms free) (cw : vx_CVW R s args own C index y bytes maxL ret hh ws rm mc ms n) (hp : PreV s H C b Pc As)
    (hg : g.method = m) (hn : As.length = n) (hsize : g.locals.size = nL) (hstack : g.stack = As.reverse ++ .ref b :: rest) (hW : 2 * g.monitorRoom + (rest.map fun v => v.category).sum ≤ 8) (hdg : decode cc g.pc = .ok (.invokevirtual index, 3)) (hf : cells + mc ≤ R.cells ∧ slots + ms ≤ R.slots) :
    va_Run p l e R s m args below meth c H locs cells slots mc ms g rest (Qc (Value.ref b :: As).toArray) free := by
  obtain ⟨⟨hrc, hrs, hfr, hlo, hws, hcw⟩, hcode, hini, hy, hlen, hl, hin, hse⟩ := cw
  have hK : Back l R p e below s args y 3 8 (PreOf R mc ms Pc) (PostOf Qc mc ms free) := va_backW (hh := hh) (bytes := bytes) (maxL := maxL) (ret := ret) hM hp.1 hrc hrs hfr hlo hws hcw (fun a' U hW => word_at hW (Or.inl (by first | rfl | simp [Cond.onTables, Cond.keeps, Cond.steady])) hini)
  obtain ⟨hx, hb, hml, ho, -⟩ := S
  obtain ⟨-, ⟨cellB, hcB, hoB, hclB⟩, hPc⟩ := hp
  intro T hT X
  obtain ⟨v, vm₁, ⟨U', l2, c2, s2⟩, hW₁, X', ⟨g', mk, t, L, e1, e2, hq, h1, hL, h2, h3⟩, st⟩ := vx_callVW X hx (C := C) (hh := hh) (bytes := bytes) (maxL := maxL) (ret := ret) ho hl hin hse hcode hy hK (by rw [hT]; exact hcB) hoB hclB hg (hsize.trans hml.symm) (argsL := As) (rest := rest) (fun sig h => hn.trans (hlen sig h)) hstack hW (by rw [hb]; exact hdg)
    (fun vm₁ hW₁ => ⟨hf.1, hf.2, hPc (T.setVm vm₁) hT hW₁⟩)
  dsimp only [Pt.U, Pt.locs, Pt.cells, Pt.slots] at X' e1 e2 h1 h2 h3 st
  subst h1; subst h2; subst h3
  exact ⟨v, (T.setVm vm₁).calling g' mk (Value.ref b :: As).toArray, t, U', L, hT, X', hL, e1, e2, hq, st⟩
section
variable {y : MethodName} {bytes cc : ByteArray} {maxL nL mc ms n index : Nat} {ret : Option FieldType} {ws : List Cond} {rm : Room} {Pc : Array Value → State → Prop} {Qc : Array Value → State → Outcome → State → Prop} {XC : String → State → State → Prop} {free : Addr → Prop} {Ts : List Cond} {own C : String} {b : Addr} {As rest : List Value} {g : JFrame}
theorem vx_runVX {hh : List (Nat × Nat × Nat × Nat)} (S : CallFix p m c cc nL s args Ts own) (hM : vx_Met l y ws rm Pc Qc XC mc ms free) (cw : vx_CVW R s args own C index y bytes maxL ret hh ws rm mc ms n) (hp : PreV s H C b Pc As)
    (hg : g.method = m) (hn : As.length = n) (hsize : g.locals.size = nL) (hstack : g.stack = As.reverse ++ .ref b :: rest) (hW : 2 * g.monitorRoom + (rest.map fun v => v.category).sum ≤ 8) (hdg : decode cc g.pc = .ok (.invokevirtual index, 3)) (hf : cells + mc ≤ R.cells ∧ slots + ms ≤ R.slots) :
    vx_Run p l e R s m args below meth c H locs cells slots mc ms g rest (Qc (Value.ref b :: As).toArray) XC free := by
  obtain ⟨⟨hrc, hrs, hfr, hlo, hws, hcw⟩, hcode, hini, hy, hlen, hl, hin, hse⟩ := cw
  have hK : vx_Back l R p e below s args y 3 8 (PreOf R mc ms Pc) (PostOf Qc mc ms free) (vx_Post XC mc ms free) := vx_backW (hh := hh) (bytes := bytes) (maxL := maxL) (ret := ret) hM hp.1 hrc hrs hfr hlo hws hcw (fun a' U hW => word_at hW (Or.inl (by first | rfl | simp [Cond.onTables, Cond.keeps, Cond.steady])) hini)
  obtain ⟨hx, hb, hml, ho, -⟩ := S
  obtain ⟨-, ⟨cellB, hcB, hoB, hclB⟩, hPc⟩ := hp
  intro T hT X
  rcases vx_callVX X hx (C := C) (hh := hh) (bytes := bytes) (maxL := maxL) (ret := ret) ho hl hin hse hcode hy hK (by rw [hT]; exact hcB) hoB hclB hg (hsize.trans hml.symm) (argsL := As) (rest := rest) (fun sig h => hn.trans (hlen sig h)) hstack hW (by rw [hb]; exact hdg)
    (fun vm₁ hW₁ => ⟨hf.1, hf.2, hPc (T.setVm vm₁) hT hW₁⟩) with ⟨v, vm₁, ⟨U', l2, c2, s2⟩, hW₁, X', ⟨g', mk, t, L, e1, e2, hq, h1, hL, h2, h3⟩, st⟩ | ⟨q, vm₁, ⟨U', l2, c2, s2⟩, hW₁, X', ⟨g', mk, t, L, E, ce, e1, e2, hq, hce, hcv, hcl, h1, hL, h2, h3⟩, st⟩
  · dsimp only [Pt.U, Pt.locs, Pt.cells, Pt.slots] at X' e1 e2 h1 h2 h3 st
    subst h1; subst h2; subst h3
    exact Or.inl ⟨v, (T.setVm vm₁).calling g' mk (Value.ref b :: As).toArray, t, U', L, hT, X', hL, e1, e2, hq, st⟩
  · dsimp only [Pt.U, Pt.locs, Pt.cells, Pt.slots] at X' e1 e2 h1 h2 h3 st hcl
    subst h1; subst h2; subst h3
    exact Or.inr ⟨q, (T.setVm vm₁).calling g' mk (Value.ref b :: As).toArray, t, U', L, E, ce, hT, X', hL, e1, e2, hq, hce, hcv, vx_cls hW₁ hcl, st⟩
theorem vx_runSX {hh : List (Nat × Nat × Nat × Nat)} (S : CallFix p m c cc nL s args Ts own) (hM : vx_Met l y ws rm Pc Qc XC mc ms free) (cw : vx_CSW R s args own index y bytes maxL ret hh ws rm mc ms n) (hp : PreS s H Pc As)
    (hg : g.method = m) (hn : As.length = n) (hsize : g.locals.size = nL) (hstack : g.stack = As.reverse ++ rest) (hW : 2 * g.monitorRoom + (rest.map fun v => v.category).sum ≤ 8) (hdg : decode cc g.pc = .ok (.invokestatic index, 3)) (hf : cells + mc ≤ R.cells ∧ slots + ms ≤ R.slots) :
    vx_Run p l e R s m args below meth c H locs cells slots mc ms g rest (Qc As.toArray) XC free := by
  obtain ⟨⟨hrc, hrs, hfr, hlo, hws, hcw⟩, hcode, hini, hy, hlen, hl, hstt⟩ := cw
  have hK : vx_Back l R p e below s args y 3 8 (PreOf R mc ms Pc) (PostOf Qc mc ms free) (vx_Post XC mc ms free) := vx_backW (hh := hh) (bytes := bytes) (maxL := maxL) (ret := ret) hM hp.1 hrc hrs hfr hlo hws hcw (fun a' U hW => word_at hW (Or.inl (by first | rfl | simp [Cond.onTables, Cond.keeps, Cond.steady])) hini)
  obtain ⟨hx, hb, hml, ho, -⟩ := S
  intro T hT X
  rcases vx_callSX X hx (hh := hh) (bytes := bytes) (maxL := maxL) (ret := ret) ho hl hstt hini hcode hy hK hg (hsize.trans hml.symm) (argsL := As) (rest := rest) (fun sig h => hn.trans (hlen sig h)) hstack hW (by rw [hb]; exact hdg)
    (fun vm₁ hW₁ => ⟨hf.1, hf.2, hp.2 (T.setVm vm₁) hT hW₁⟩) with ⟨v, vm₁, ⟨U', l2, c2, s2⟩, hW₁, X', ⟨g', mk, t, L, e1, e2, hq, h1, hL, h2, h3⟩, st⟩ | ⟨q, vm₁, ⟨U', l2, c2, s2⟩, hW₁, X', ⟨g', mk, t, L, E, ce, e1, e2, hq, hce, hcv, hcl, h1, hL, h2, h3⟩, st⟩
  · dsimp only [Pt.U, Pt.locs, Pt.cells, Pt.slots] at X' e1 e2 h1 h2 h3 st
    subst h1; subst h2; subst h3
    exact Or.inl ⟨v, (T.setVm vm₁).calling g' mk As.toArray, t, U', L, hT, X', hL, e1, e2, hq, st⟩
  · dsimp only [Pt.U, Pt.locs, Pt.cells, Pt.slots] at X' e1 e2 h1 h2 h3 st hcl
    subst h1; subst h2; subst h3
    exact Or.inr ⟨q, (T.setVm vm₁).calling g' mk As.toArray, t, U', L, E, ce, hT, X', hL, e1, e2, hq, hce, hcv, vx_cls hW₁ hcl, st⟩
end
end VXH
theorem vx_ofWH {l : Launch} {y : MethodName} {ws ws' : List Cond} {rm : Room} {Pc : Array Value → State → Prop} {Qc : Array Value → State → Outcome → State → Prop} {XC : String → State → State → Prop} {mc ms : Nat} {free : Addr → Prop} {cc : ByteArray} {maxL : Nat} {ret : Option FieldType} {hh : List (Nat × Nat × Nat × Nat)}
    (hy : plainName y.cls = true) (hw : ws = Cond.codeWith y cc maxL ret hh :: ws')
    (body : ∀ p e s m args below meth c s₁, BodyLoose p l y (headSpec ws rm) cc maxL ret e s m args below meth c s₁ → c.maxLocals = maxL → Pc args s →
      W p l e (headSpec ws rm).room s m args below meth c s.heap [] 0 0 (vx_MQ below Qc XC args s mc ms free) (entryFrame m args maxL)) : vx_Met l y ws rm Pc Qc XC mc ms free := by
  refine MetFree.of_bodyS (code := cc) (maxLocals := maxL) (ret := ret) hy ?_ ?_
  · intro args s m h hn
    obtain ⟨m9, meth, c, hn9, h1, h2, h3, h4, -, h5, h6, -⟩ := Cond.codeWith_spec (atoms_spec (ws := ws) h _ (by rw [hw]; exact List.mem_cons_self))
    cases hn.symm.trans hn9
    exact ⟨meth, c, h1, h2, h3, h4, h5, h6⟩
  · intro p e s m args below meth c s₁ B hml hP _
    have hh0 : s₁.heap = s.heap := by rw [B.state]; rfl
    obtain ⟨t, a1, o, b1, b2, b3⟩ := body p e s m args below meth c s₁ B hml hP s₁ hh0 (Stand.of_body B)
    exact ⟨t, o, a1, b1, b2, b3⟩
/-! ===== END ===== -/
end
section
def wsX12_faultAt : List Cond := .code yX12_faultAt cX12_faultAt 3 none :: ([.fieldLink RX12 515 "OptimaWorksModel" "stop" "I", .fieldLink RX12 43 "OptimaWorksModel" "place" "I"] ++ wsX120)
theorem dX12_faultAt_0 : decode cX12_faultAt 0 = .ok (.aload_n 0, 1) := by decide +kernel
theorem dX12_faultAt_1 : decode cX12_faultAt 1 = .ok (.getfield 515, 3) := by decide +kernel
theorem dX12_faultAt_4 : decode cX12_faultAt 4 = .ok (.ifCond .le 4, 3) := by decide +kernel
theorem dX12_faultAt_7 : decode cX12_faultAt 7 = .ok (.return_, 1) := by decide +kernel
theorem dX12_faultAt_8 : decode cX12_faultAt 8 = .ok (.aload_n 0, 1) := by decide +kernel
theorem dX12_faultAt_9 : decode cX12_faultAt 9 = .ok (.iload_n 1, 1) := by decide +kernel
theorem dX12_faultAt_10 : decode cX12_faultAt 10 = .ok (.putfield 515, 3) := by decide +kernel
theorem dX12_faultAt_13 : decode cX12_faultAt 13 = .ok (.aload_n 0, 1) := by decide +kernel
theorem dX12_faultAt_14 : decode cX12_faultAt 14 = .ok (.iload_n 2, 1) := by decide +kernel
theorem dX12_faultAt_15 : decode cX12_faultAt 15 = .ok (.putfield 43, 3) := by decide +kernel
theorem dX12_faultAt_18 : decode cX12_faultAt 18 = .ok (.return_, 1) := by decide +kernel
theorem iX12_faultAt_in12 : ∀ w ∈ wsX120, w ∈ wsX12_faultAt := fun _ h => List.mem_cons_of_mem _ (List.mem_append_right _ h)
set_option maxHeartbeats 4000000 in
set_option maxRecDepth 100000 in
/-- faultAt(n, p): the first fault stays -/
theorem c_X12_faultAt (l : Launch) (dC : Nat → ClassId) (dI : Nat → Nat → Nat) (h0 : Nat) (v : Nat → Value) (x_stop : Int32) (h_stop : v 21 = .int x_stop) (n : Int32) (q : Int32) (sz : Nat) : Met l yX12_faultAt wsX12_faultAt ({ frames := 0, cells := 0, slots := 0, locals := 0 }) (va_Pc [.ref h0, .int n, .int q] (fun U => U.heap.size = sz ∧ va_P (dC, dI) vwCl [(h0, .inr (12, fM v))] U.heap ∧ va_K (dC, dI) vwCl [] U ∧ va_D (fun _ => True) [(h0, .inr (12, fM v))])) (va_Qv (fun w : (Nat → Value) => w = if x_stop ≤ 0 then mUp (mUp v 21 (.int n)) 22 (.int q) else v) (fun w t => va_P (dC, dI) vwCl [(h0, .inr (12, fM w))] t.heap ∧ va_K (dC, dI) vwCl [] t ∧ va_D (va_A [(h0, .inr (12, fM v))] sz) [(h0, .inr (12, fM w))]) (va_A [(h0, .inr (12, fM v))] sz)) 0 0 (va_A [(h0, .inr (12, fM v))] sz) := by
  refine Met.ofW (cc := cX12_faultAt) (maxL := 3) (ret := none) (by decide) rfl ?_
  intro p e s m args below meth c s₁ B hml hv
  obtain ⟨rfl, hsz, hP, hK, hD0⟩ := hv
  have hx := B.exec
  have hb := B.bytes
  have hr := B.returns
  have hts := atoms_spec (ws := wsX12_faultAt) B.pre
  have hown : s.vm.findClass RX12 = some m.cls := findClass_of_methodNamed B.named
  have hlocks := B.notSynchronized
  subst hsz
  have hD := hD0.self (sz := s.heap.size)
  generalize hAe : va_A [(h0, .inr (12, fM v))] s.heap.size = A at hD ⊢
  have hA : ∀ q : Nat, s.heap.size ≤ q → A q := fun q h => by rw [← hAe]; exact Or.inr h
  have hS : va_S A s.heap s.heap [] := va_S.rf
  have hP : va_P (dC, dI) vwCl [(h0, .inr (12, fM v))] s.heap := hP
  have hl := lv_entry ([.ref h0, .int n, .int q]) (n := 3) (Nat.le_of_ble_eq_true rfl)
  rw [lg_entry_eq]
  generalize (lg_sl ([.ref h0, .int n, .int q]) ++ List.replicate (3 - (lg_sl ([.ref h0, .int n, .int q])).length) Slot.unset).toArray = ls at hl ⊢
  have hl : lv_has ls 3 [(0, .ref h0), (1, .int n), (2, .int q)] := hl
  refine lv_aload_n hx hb dX12_faultAt_0 rfl (lv_at hl 0 rfl) ?_
  refine va_get (D := (dC, dI)) (ci := 12) (v := .int x_stop) (C := RX12) (T := TX12) (N := 163) hx hb hts iX12_faultAt_in12 hown hK hP 0 rfl rfl 21 (by decide) (hts (.fieldLink RX12 515 "OptimaWorksModel" "stop" "I") (by decide +kernel)) (fun _ h9 => h9) (congrArg some h_stop) dX12_faultAt_1 ?_
  refine lv_if_le (tgt := 8) hx hb dX12_faultAt_4 (by decide) (fun c_4 => ?_) (fun c_4 => ?_)
  · refine lv_aload_n hx hb dX12_faultAt_8 rfl (lv_at hl 0 rfl) ?_
    refine lv_iload_n hx hb dX12_faultAt_9 rfl (lv_at hl 1 rfl) ?_
    refine va_put (D := (dC, dI)) (ci := 12) (v := .int n) (ty := .int) (C := RX12) (T := TX12) (N := 163) hx hb hts iX12_faultAt_in12 tyX12 tyX12_ok nmX12 hown hK hP hD hS 0 rfl rfl 21 (by decide) (hts (.fieldLink RX12 515 "OptimaWorksModel" "stop" "I") (by decide +kernel)) (fun _ h9 => h9) rfl (by decide +kernel) rfl rfl (Nat.le_of_ble_eq_true rfl) dX12_faultAt_10 (fun H locs hP hD hS => ?_)
    have hP : va_P (dC, dI) vwCl [(h0, .inr (12, fM (mUp v 21 (.int n))))] H := hP
    have hD : va_D A [(h0, .inr (12, fM (mUp v 21 (.int n))))] := hD
    refine lv_aload_n hx hb dX12_faultAt_13 rfl (lv_at hl 0 rfl) ?_
    refine lv_iload_n hx hb dX12_faultAt_14 rfl (lv_at hl 2 rfl) ?_
    refine va_put (D := (dC, dI)) (ci := 12) (v := .int q) (ty := .int) (C := RX12) (T := TX12) (N := 163) hx hb hts iX12_faultAt_in12 tyX12 tyX12_ok nmX12 hown hK hP hD hS 0 rfl rfl 22 (by decide) (hts (.fieldLink RX12 43 "OptimaWorksModel" "place" "I") (by decide +kernel)) (fun _ h9 => h9) rfl (by decide +kernel) rfl rfl (Nat.le_of_ble_eq_true rfl) dX12_faultAt_15 (fun H locs hP hD hS => ?_)
    have hP : va_P (dC, dI) vwCl [(h0, .inr (12, fM (mUp (mUp v 21 (.int n)) 22 (.int q))))] H := hP
    have hD : va_D A [(h0, .inr (12, fM (mUp (mUp v 21 (.int n)) 22 (.int q))))] := hD
    refine W.widen (k := 0) (n := 0) (by decide +kernel) (by decide +kernel) ?_
    exact W.vret hx hb hr (fun t ht hW => ⟨⟨(mUp (mUp v 21 (.int n)) 22 (.int q)), rfl, by simp [c_4], by rw [ht]; exact hP, va_K.moved hW.alike hK, hD⟩, hS.F ht⟩) hS.2.2 dX12_faultAt_18
  · refine W.widen (k := 0) (n := 0) (by decide +kernel) (by decide +kernel) ?_
    exact W.vret hx hb hr (fun t ht hW => ⟨⟨(v), rfl, by simp [c_4], by rw [ht]; exact hP, va_K.moved hW.alike hK, hD⟩, hS.F ht⟩) hS.2.2 dX12_faultAt_7
def wsX12_isSign : List Cond := .code yX12_isSign cX12_isSign 2 (some .boolean) :: ([.fieldLink RX12 494 "OptimaWorksModel" "word" "I", .fieldLink RX12 491 "OptimaWorksModel" "sign0" "I"] ++ wsX120)
theorem dX12_isSign_0 : decode cX12_isSign 0 = .ok (.aload_n 0, 1) := by decide +kernel
theorem dX12_isSign_1 : decode cX12_isSign 1 = .ok (.getfield 494, 3) := by decide +kernel
theorem dX12_isSign_4 : decode cX12_isSign 4 = .ok (.iconst 4, 1) := by decide +kernel
theorem dX12_isSign_5 : decode cX12_isSign 5 = .ok (.if_icmp .ne 15, 3) := by decide +kernel
theorem dX12_isSign_8 : decode cX12_isSign 8 = .ok (.aload_n 0, 1) := by decide +kernel
theorem dX12_isSign_9 : decode cX12_isSign 9 = .ok (.getfield 491, 3) := by decide +kernel
theorem dX12_isSign_12 : decode cX12_isSign 12 = .ok (.iload_n 1, 1) := by decide +kernel
theorem dX12_isSign_13 : decode cX12_isSign 13 = .ok (.if_icmp .ne 7, 3) := by decide +kernel
theorem dX12_isSign_16 : decode cX12_isSign 16 = .ok (.iconst 1, 1) := by decide +kernel
theorem dX12_isSign_17 : decode cX12_isSign 17 = .ok (.goto 4, 3) := by decide +kernel
theorem dX12_isSign_20 : decode cX12_isSign 20 = .ok (.iconst 0, 1) := by decide +kernel
theorem dX12_isSign_21 : decode cX12_isSign 21 = .ok (.ireturn, 1) := by decide +kernel
theorem iX12_isSign_in12 : ∀ w ∈ wsX120, w ∈ wsX12_isSign := fun _ h => List.mem_cons_of_mem _ (List.mem_append_right _ h)
set_option maxHeartbeats 4000000 in
set_option maxRecDepth 100000 in
/-- isSign(c) -/
theorem c_X12_isSign (l : Launch) (dC : Nat → ClassId) (dI : Nat → Nat → Nat) (h0 : Nat) (v : Nat → Value) (x_word : Int32) (h_word : v 18 = .int x_word) (x_sign0 : Int32) (h_sign0 : v 20 = .int x_sign0) (q : Int32) (sz : Nat) : Met l yX12_isSign wsX12_isSign ({ frames := 0, cells := 0, slots := 0, locals := 0 }) (va_Pc [.ref h0, .int q] (fun U => U.heap.size = sz ∧ va_P (dC, dI) vwCl [(h0, .inr (12, fM v))] U.heap ∧ va_K (dC, dI) vwCl [] U ∧ va_D (fun _ => True) [(h0, .inr (12, fM v))])) (va_Qi (fun (r : Int32) (w : (Nat → Value)) => r = (if x_word = 4 then (if x_sign0 = q then 1 else 0) else 0) ∧ w = v) (fun w t => va_P (dC, dI) vwCl [(h0, .inr (12, fM w))] t.heap ∧ va_K (dC, dI) vwCl [] t ∧ va_D (va_A [(h0, .inr (12, fM v))] sz) [(h0, .inr (12, fM w))]) (va_A [(h0, .inr (12, fM v))] sz)) 0 0 (va_A [(h0, .inr (12, fM v))] sz) := by
  refine Met.ofW (cc := cX12_isSign) (maxL := 2) (ret := (some .boolean)) (by decide) rfl ?_
  intro p e s m args below meth c s₁ B hml hv
  obtain ⟨rfl, hsz, hP, hK, hD0⟩ := hv
  have hx := B.exec
  have hb := B.bytes
  have hr := B.returns
  have hts := atoms_spec (ws := wsX12_isSign) B.pre
  have hown : s.vm.findClass RX12 = some m.cls := findClass_of_methodNamed B.named
  have hlocks := B.notSynchronized
  subst hsz
  have hD := hD0.self (sz := s.heap.size)
  generalize hAe : va_A [(h0, .inr (12, fM v))] s.heap.size = A at hD ⊢
  have hA : ∀ q : Nat, s.heap.size ≤ q → A q := fun q h => by rw [← hAe]; exact Or.inr h
  have hS : va_S A s.heap s.heap [] := va_S.rf
  have hP : va_P (dC, dI) vwCl [(h0, .inr (12, fM v))] s.heap := hP
  have hl := lv_entry ([.ref h0, .int q]) (n := 2) (Nat.le_of_ble_eq_true rfl)
  rw [lg_entry_eq]
  generalize (lg_sl ([.ref h0, .int q]) ++ List.replicate (2 - (lg_sl ([.ref h0, .int q])).length) Slot.unset).toArray = ls at hl ⊢
  have hl : lv_has ls 2 [(0, .ref h0), (1, .int q)] := hl
  refine lv_aload_n hx hb dX12_isSign_0 rfl (lv_at hl 0 rfl) ?_
  refine va_get (D := (dC, dI)) (ci := 12) (v := .int x_word) (C := RX12) (T := TX12) (N := 163) hx hb hts iX12_isSign_in12 hown hK hP 0 rfl rfl 18 (by decide) (hts (.fieldLink RX12 494 "OptimaWorksModel" "word" "I") (by decide +kernel)) (fun _ h9 => h9) (congrArg some h_word) dX12_isSign_1 ?_
  refine lv_iconst (v := 4) hx hb dX12_isSign_4 (by decide) ?_
  refine lv_icmp_ne (tgt := 20) hx hb dX12_isSign_5 (by decide) (fun c_5 => ?_) (fun c_5 => ?_)
  · refine lv_iconst (v := 0) hx hb dX12_isSign_20 (by decide) ?_
    refine W.widen (k := 0) (n := 0) (by decide +kernel) (by decide +kernel) ?_
    exact W.zret (v := 0) hx hb hr rfl (fun t ht hW => ⟨⟨0, (v), rfl, ⟨by simp [c_5], rfl⟩, by rw [ht]; exact hP, va_K.moved hW.alike hK, hD⟩, hS.F ht⟩) hS.2.2 dX12_isSign_21
  · refine lv_aload_n hx hb dX12_isSign_8 rfl (lv_at hl 0 rfl) ?_
    refine va_get (D := (dC, dI)) (ci := 12) (v := .int x_sign0) (C := RX12) (T := TX12) (N := 163) hx hb hts iX12_isSign_in12 hown hK hP 0 rfl rfl 20 (by decide) (hts (.fieldLink RX12 491 "OptimaWorksModel" "sign0" "I") (by decide +kernel)) (fun _ h9 => h9) (congrArg some h_sign0) dX12_isSign_9 ?_
    refine lv_iload_n hx hb dX12_isSign_12 rfl (lv_at hl 1 rfl) ?_
    refine lv_icmp_ne (tgt := 20) hx hb dX12_isSign_13 (by decide) (fun c_13 => ?_) (fun c_13 => ?_)
    · refine lv_iconst (v := 0) hx hb dX12_isSign_20 (by decide) ?_
      refine W.widen (k := 0) (n := 0) (by decide +kernel) (by decide +kernel) ?_
      exact W.zret (v := 0) hx hb hr rfl (fun t ht hW => ⟨⟨0, (v), rfl, ⟨by simp [c_5, c_13], rfl⟩, by rw [ht]; exact hP, va_K.moved hW.alike hK, hD⟩, hS.F ht⟩) hS.2.2 dX12_isSign_21
    · refine lv_iconst (v := 1) hx hb dX12_isSign_16 (by decide) ?_
      refine lv_goto (tgt := 21) hx hb dX12_isSign_17 (by decide) ?_
      refine W.widen (k := 0) (n := 0) (by decide +kernel) (by decide +kernel) ?_
      exact W.zret (v := 1) hx hb hr rfl (fun t ht hW => ⟨⟨1, (v), rfl, ⟨by simp [c_5, c_13], rfl⟩, by rw [ht]; exact hP, va_K.moved hW.alike hK, hD⟩, hS.F ht⟩) hS.2.2 dX12_isSign_21
def wsX12_isKey : List Cond := .code yX12_isKey cX12_isKey 2 (some .boolean) :: ([.fieldLink RX12 494 "OptimaWorksModel" "word" "I", .fieldLink RX12 491 "OptimaWorksModel" "sign0" "I"] ++ wsX120)
theorem dX12_isKey_0 : decode cX12_isKey 0 = .ok (.aload_n 0, 1) := by decide +kernel
theorem dX12_isKey_1 : decode cX12_isKey 1 = .ok (.getfield 494, 3) := by decide +kernel
theorem dX12_isKey_4 : decode cX12_isKey 4 = .ok (.iconst 2, 1) := by decide +kernel
theorem dX12_isKey_5 : decode cX12_isKey 5 = .ok (.if_icmp .ne 15, 3) := by decide +kernel
theorem dX12_isKey_8 : decode cX12_isKey 8 = .ok (.aload_n 0, 1) := by decide +kernel
theorem dX12_isKey_9 : decode cX12_isKey 9 = .ok (.getfield 491, 3) := by decide +kernel
theorem dX12_isKey_12 : decode cX12_isKey 12 = .ok (.iload_n 1, 1) := by decide +kernel
theorem dX12_isKey_13 : decode cX12_isKey 13 = .ok (.if_icmp .ne 7, 3) := by decide +kernel
theorem dX12_isKey_16 : decode cX12_isKey 16 = .ok (.iconst 1, 1) := by decide +kernel
theorem dX12_isKey_17 : decode cX12_isKey 17 = .ok (.goto 4, 3) := by decide +kernel
theorem dX12_isKey_20 : decode cX12_isKey 20 = .ok (.iconst 0, 1) := by decide +kernel
theorem dX12_isKey_21 : decode cX12_isKey 21 = .ok (.ireturn, 1) := by decide +kernel
theorem iX12_isKey_in12 : ∀ w ∈ wsX120, w ∈ wsX12_isKey := fun _ h => List.mem_cons_of_mem _ (List.mem_append_right _ h)
set_option maxHeartbeats 4000000 in
set_option maxRecDepth 100000 in
/-- isKey(k) -/
theorem c_X12_isKey (l : Launch) (dC : Nat → ClassId) (dI : Nat → Nat → Nat) (h0 : Nat) (v : Nat → Value) (x_word : Int32) (h_word : v 18 = .int x_word) (x_sign0 : Int32) (h_sign0 : v 20 = .int x_sign0) (q : Int32) (sz : Nat) : Met l yX12_isKey wsX12_isKey ({ frames := 0, cells := 0, slots := 0, locals := 0 }) (va_Pc [.ref h0, .int q] (fun U => U.heap.size = sz ∧ va_P (dC, dI) vwCl [(h0, .inr (12, fM v))] U.heap ∧ va_K (dC, dI) vwCl [] U ∧ va_D (fun _ => True) [(h0, .inr (12, fM v))])) (va_Qi (fun (r : Int32) (w : (Nat → Value)) => r = (if x_word = 2 then (if x_sign0 = q then 1 else 0) else 0) ∧ w = v) (fun w t => va_P (dC, dI) vwCl [(h0, .inr (12, fM w))] t.heap ∧ va_K (dC, dI) vwCl [] t ∧ va_D (va_A [(h0, .inr (12, fM v))] sz) [(h0, .inr (12, fM w))]) (va_A [(h0, .inr (12, fM v))] sz)) 0 0 (va_A [(h0, .inr (12, fM v))] sz) := by
  refine Met.ofW (cc := cX12_isKey) (maxL := 2) (ret := (some .boolean)) (by decide) rfl ?_
  intro p e s m args below meth c s₁ B hml hv
  obtain ⟨rfl, hsz, hP, hK, hD0⟩ := hv
  have hx := B.exec
  have hb := B.bytes
  have hr := B.returns
  have hts := atoms_spec (ws := wsX12_isKey) B.pre
  have hown : s.vm.findClass RX12 = some m.cls := findClass_of_methodNamed B.named
  have hlocks := B.notSynchronized
  subst hsz
  have hD := hD0.self (sz := s.heap.size)
  generalize hAe : va_A [(h0, .inr (12, fM v))] s.heap.size = A at hD ⊢
  have hA : ∀ q : Nat, s.heap.size ≤ q → A q := fun q h => by rw [← hAe]; exact Or.inr h
  have hS : va_S A s.heap s.heap [] := va_S.rf
  have hP : va_P (dC, dI) vwCl [(h0, .inr (12, fM v))] s.heap := hP
  have hl := lv_entry ([.ref h0, .int q]) (n := 2) (Nat.le_of_ble_eq_true rfl)
  rw [lg_entry_eq]
  generalize (lg_sl ([.ref h0, .int q]) ++ List.replicate (2 - (lg_sl ([.ref h0, .int q])).length) Slot.unset).toArray = ls at hl ⊢
  have hl : lv_has ls 2 [(0, .ref h0), (1, .int q)] := hl
  refine lv_aload_n hx hb dX12_isKey_0 rfl (lv_at hl 0 rfl) ?_
  refine va_get (D := (dC, dI)) (ci := 12) (v := .int x_word) (C := RX12) (T := TX12) (N := 163) hx hb hts iX12_isKey_in12 hown hK hP 0 rfl rfl 18 (by decide) (hts (.fieldLink RX12 494 "OptimaWorksModel" "word" "I") (by decide +kernel)) (fun _ h9 => h9) (congrArg some h_word) dX12_isKey_1 ?_
  refine lv_iconst (v := 2) hx hb dX12_isKey_4 (by decide) ?_
  refine lv_icmp_ne (tgt := 20) hx hb dX12_isKey_5 (by decide) (fun c_5 => ?_) (fun c_5 => ?_)
  · refine lv_iconst (v := 0) hx hb dX12_isKey_20 (by decide) ?_
    refine W.widen (k := 0) (n := 0) (by decide +kernel) (by decide +kernel) ?_
    exact W.zret (v := 0) hx hb hr rfl (fun t ht hW => ⟨⟨0, (v), rfl, ⟨by simp [c_5], rfl⟩, by rw [ht]; exact hP, va_K.moved hW.alike hK, hD⟩, hS.F ht⟩) hS.2.2 dX12_isKey_21
  · refine lv_aload_n hx hb dX12_isKey_8 rfl (lv_at hl 0 rfl) ?_
    refine va_get (D := (dC, dI)) (ci := 12) (v := .int x_sign0) (C := RX12) (T := TX12) (N := 163) hx hb hts iX12_isKey_in12 hown hK hP 0 rfl rfl 20 (by decide) (hts (.fieldLink RX12 491 "OptimaWorksModel" "sign0" "I") (by decide +kernel)) (fun _ h9 => h9) (congrArg some h_sign0) dX12_isKey_9 ?_
    refine lv_iload_n hx hb dX12_isKey_12 rfl (lv_at hl 1 rfl) ?_
    refine lv_icmp_ne (tgt := 20) hx hb dX12_isKey_13 (by decide) (fun c_13 => ?_) (fun c_13 => ?_)
    · refine lv_iconst (v := 0) hx hb dX12_isKey_20 (by decide) ?_
      refine W.widen (k := 0) (n := 0) (by decide +kernel) (by decide +kernel) ?_
      exact W.zret (v := 0) hx hb hr rfl (fun t ht hW => ⟨⟨0, (v), rfl, ⟨by simp [c_5, c_13], rfl⟩, by rw [ht]; exact hP, va_K.moved hW.alike hK, hD⟩, hS.F ht⟩) hS.2.2 dX12_isKey_21
    · refine lv_iconst (v := 1) hx hb dX12_isKey_16 (by decide) ?_
      refine lv_goto (tgt := 21) hx hb dX12_isKey_17 (by decide) ?_
      refine W.widen (k := 0) (n := 0) (by decide +kernel) (by decide +kernel) ?_
      exact W.zret (v := 1) hx hb hr rfl (fun t ht hW => ⟨⟨1, (v), rfl, ⟨by simp [c_5, c_13], rfl⟩, by rw [ht]; exact hP, va_K.moved hW.alike hK, hD⟩, hS.F ht⟩) hS.2.2 dX12_isKey_21
def wsX12_isLetter : List Cond := .code yX12_isLetter cX12_isLetter 1 (some .boolean) :: ([])
theorem dX12_isLetter_0 : decode cX12_isLetter 0 = .ok (.iload_n 0, 1) := by decide +kernel
theorem dX12_isLetter_1 : decode cX12_isLetter 1 = .ok (.bipush 65, 2) := by decide +kernel
theorem dX12_isLetter_3 : decode cX12_isLetter 3 = .ok (.if_icmp .lt 9, 3) := by decide +kernel
theorem dX12_isLetter_6 : decode cX12_isLetter 6 = .ok (.iload_n 0, 1) := by decide +kernel
theorem dX12_isLetter_7 : decode cX12_isLetter 7 = .ok (.bipush 90, 2) := by decide +kernel
theorem dX12_isLetter_9 : decode cX12_isLetter 9 = .ok (.if_icmp .le 15, 3) := by decide +kernel
theorem dX12_isLetter_12 : decode cX12_isLetter 12 = .ok (.iload_n 0, 1) := by decide +kernel
theorem dX12_isLetter_13 : decode cX12_isLetter 13 = .ok (.bipush 97, 2) := by decide +kernel
theorem dX12_isLetter_15 : decode cX12_isLetter 15 = .ok (.if_icmp .lt 13, 3) := by decide +kernel
theorem dX12_isLetter_18 : decode cX12_isLetter 18 = .ok (.iload_n 0, 1) := by decide +kernel
theorem dX12_isLetter_19 : decode cX12_isLetter 19 = .ok (.bipush 122, 2) := by decide +kernel
theorem dX12_isLetter_21 : decode cX12_isLetter 21 = .ok (.if_icmp .gt 7, 3) := by decide +kernel
theorem dX12_isLetter_24 : decode cX12_isLetter 24 = .ok (.iconst 1, 1) := by decide +kernel
theorem dX12_isLetter_25 : decode cX12_isLetter 25 = .ok (.goto 4, 3) := by decide +kernel
theorem dX12_isLetter_28 : decode cX12_isLetter 28 = .ok (.iconst 0, 1) := by decide +kernel
theorem dX12_isLetter_29 : decode cX12_isLetter 29 = .ok (.ireturn, 1) := by decide +kernel
set_option maxHeartbeats 4000000 in
set_option maxRecDepth 100000 in
/-- isLetter(c) -/
theorem c_X12_isLetter (l : Launch) (dC : Nat → ClassId) (dI : Nat → Nat → Nat)  (q : Int32) (sz : Nat) : Met l yX12_isLetter wsX12_isLetter ({ frames := 0, cells := 0, slots := 0, locals := 0 }) (va_Pc [.int q] (fun U => U.heap.size = sz ∧ va_P (dC, dI) vwCl [] U.heap ∧ va_K (dC, dI) vwCl [] U ∧ va_D (fun _ => True) [])) (va_Qi (fun (r : Int32) (_w : Unit) => r = (if q < 65 then (if q < 97 then 0 else if q ≤ 122 then 1 else 0) else if q ≤ 90 then 1 else if q < 97 then 0 else if q ≤ 122 then 1 else 0) ∧ True) (fun _ t => va_P (dC, dI) vwCl [] t.heap ∧ va_K (dC, dI) vwCl [] t ∧ va_D (va_A [] sz) []) (va_A [] sz)) 0 0 (va_A [] sz) := by
  refine Met.ofW (cc := cX12_isLetter) (maxL := 1) (ret := (some .boolean)) (by decide) rfl ?_
  intro p e s m args below meth c s₁ B hml hv
  obtain ⟨rfl, hsz, hP, hK, hD0⟩ := hv
  have hx := B.exec
  have hb := B.bytes
  have hr := B.returns
  have hts := atoms_spec (ws := wsX12_isLetter) B.pre
  have hown : s.vm.findClass RX12 = some m.cls := findClass_of_methodNamed B.named
  have hlocks := B.notSynchronized
  subst hsz
  have hD := hD0.self (sz := s.heap.size)
  generalize hAe : va_A [] s.heap.size = A at hD ⊢
  have hA : ∀ q : Nat, s.heap.size ≤ q → A q := fun q h => by rw [← hAe]; exact Or.inr h
  have hS : va_S A s.heap s.heap [] := va_S.rf
  have hP : va_P (dC, dI) vwCl [] s.heap := hP
  have hl := lv_entry ([.int q]) (n := 1) (Nat.le_of_ble_eq_true rfl)
  rw [lg_entry_eq]
  generalize (lg_sl ([.int q]) ++ List.replicate (1 - (lg_sl ([.int q])).length) Slot.unset).toArray = ls at hl ⊢
  have hl : lv_has ls 1 [(0, .int q)] := hl
  refine lv_iload_n hx hb dX12_isLetter_0 rfl (lv_at hl 0 rfl) ?_
  refine lv_bipush (v := 65) hx hb dX12_isLetter_1 (by decide) ?_
  refine lv_icmp_lt (tgt := 12) hx hb dX12_isLetter_3 (by decide) (fun c_3 => ?_) (fun c_3 => ?_)
  · refine lv_iload_n hx hb dX12_isLetter_12 rfl (lv_at hl 0 rfl) ?_
    refine lv_bipush (v := 97) hx hb dX12_isLetter_13 (by decide) ?_
    refine lv_icmp_lt (tgt := 28) hx hb dX12_isLetter_15 (by decide) (fun c_15 => ?_) (fun c_15 => ?_)
    · refine lv_iconst (v := 0) hx hb dX12_isLetter_28 (by decide) ?_
      refine W.widen (k := 0) (n := 0) (by decide +kernel) (by decide +kernel) ?_
      exact W.zret (v := 0) hx hb hr rfl (fun t ht hW => ⟨⟨0, (), rfl, ⟨by simp [c_3, c_15], trivial⟩, by rw [ht]; exact hP, va_K.moved hW.alike hK, hD⟩, hS.F ht⟩) hS.2.2 dX12_isLetter_29
    · refine lv_iload_n hx hb dX12_isLetter_18 rfl (lv_at hl 0 rfl) ?_
      refine lv_bipush (v := 122) hx hb dX12_isLetter_19 (by decide) ?_
      refine lv_icmp_gt (tgt := 28) hx hb dX12_isLetter_21 (by decide) (fun c_21 => ?_) (fun c_21 => ?_)
      · refine lv_iconst (v := 0) hx hb dX12_isLetter_28 (by decide) ?_
        refine W.widen (k := 0) (n := 0) (by decide +kernel) (by decide +kernel) ?_
        exact W.zret (v := 0) hx hb hr rfl (fun t ht hW => ⟨⟨0, (), rfl, ⟨by simp [c_3, c_15, c_21], trivial⟩, by rw [ht]; exact hP, va_K.moved hW.alike hK, hD⟩, hS.F ht⟩) hS.2.2 dX12_isLetter_29
      · refine lv_iconst (v := 1) hx hb dX12_isLetter_24 (by decide) ?_
        refine lv_goto (tgt := 29) hx hb dX12_isLetter_25 (by decide) ?_
        refine W.widen (k := 0) (n := 0) (by decide +kernel) (by decide +kernel) ?_
        exact W.zret (v := 1) hx hb hr rfl (fun t ht hW => ⟨⟨1, (), rfl, ⟨by simp [c_3, c_15, c_21], trivial⟩, by rw [ht]; exact hP, va_K.moved hW.alike hK, hD⟩, hS.F ht⟩) hS.2.2 dX12_isLetter_29
  · refine lv_iload_n hx hb dX12_isLetter_6 rfl (lv_at hl 0 rfl) ?_
    refine lv_bipush (v := 90) hx hb dX12_isLetter_7 (by decide) ?_
    refine lv_icmp_le (tgt := 24) hx hb dX12_isLetter_9 (by decide) (fun c_9 => ?_) (fun c_9 => ?_)
    · refine lv_iconst (v := 1) hx hb dX12_isLetter_24 (by decide) ?_
      refine lv_goto (tgt := 29) hx hb dX12_isLetter_25 (by decide) ?_
      refine W.widen (k := 0) (n := 0) (by decide +kernel) (by decide +kernel) ?_
      exact W.zret (v := 1) hx hb hr rfl (fun t ht hW => ⟨⟨1, (), rfl, ⟨by simp [c_3, c_9], trivial⟩, by rw [ht]; exact hP, va_K.moved hW.alike hK, hD⟩, hS.F ht⟩) hS.2.2 dX12_isLetter_29
    · refine lv_iload_n hx hb dX12_isLetter_12 rfl (lv_at hl 0 rfl) ?_
      refine lv_bipush (v := 97) hx hb dX12_isLetter_13 (by decide) ?_
      refine lv_icmp_lt (tgt := 28) hx hb dX12_isLetter_15 (by decide) (fun c_15 => ?_) (fun c_15 => ?_)
      · refine lv_iconst (v := 0) hx hb dX12_isLetter_28 (by decide) ?_
        refine W.widen (k := 0) (n := 0) (by decide +kernel) (by decide +kernel) ?_
        exact W.zret (v := 0) hx hb hr rfl (fun t ht hW => ⟨⟨0, (), rfl, ⟨by simp [c_3, c_9, c_15], trivial⟩, by rw [ht]; exact hP, va_K.moved hW.alike hK, hD⟩, hS.F ht⟩) hS.2.2 dX12_isLetter_29
      · refine lv_iload_n hx hb dX12_isLetter_18 rfl (lv_at hl 0 rfl) ?_
        refine lv_bipush (v := 122) hx hb dX12_isLetter_19 (by decide) ?_
        refine lv_icmp_gt (tgt := 28) hx hb dX12_isLetter_21 (by decide) (fun c_21 => ?_) (fun c_21 => ?_)
        · refine lv_iconst (v := 0) hx hb dX12_isLetter_28 (by decide) ?_
          refine W.widen (k := 0) (n := 0) (by decide +kernel) (by decide +kernel) ?_
          exact W.zret (v := 0) hx hb hr rfl (fun t ht hW => ⟨⟨0, (), rfl, ⟨by simp [c_3, c_9, c_15, c_21], trivial⟩, by rw [ht]; exact hP, va_K.moved hW.alike hK, hD⟩, hS.F ht⟩) hS.2.2 dX12_isLetter_29
        · refine lv_iconst (v := 1) hx hb dX12_isLetter_24 (by decide) ?_
          refine lv_goto (tgt := 29) hx hb dX12_isLetter_25 (by decide) ?_
          refine W.widen (k := 0) (n := 0) (by decide +kernel) (by decide +kernel) ?_
          exact W.zret (v := 1) hx hb hr rfl (fun t ht hW => ⟨⟨1, (), rfl, ⟨by simp [c_3, c_9, c_15, c_21], trivial⟩, by rw [ht]; exact hP, va_K.moved hW.alike hK, hD⟩, hS.F ht⟩) hS.2.2 dX12_isLetter_29
def wsX12_isDigit : List Cond := .code yX12_isDigit cX12_isDigit 1 (some .boolean) :: ([])
theorem dX12_isDigit_0 : decode cX12_isDigit 0 = .ok (.iload_n 0, 1) := by decide +kernel
theorem dX12_isDigit_1 : decode cX12_isDigit 1 = .ok (.bipush 48, 2) := by decide +kernel
theorem dX12_isDigit_3 : decode cX12_isDigit 3 = .ok (.if_icmp .lt 13, 3) := by decide +kernel
theorem dX12_isDigit_6 : decode cX12_isDigit 6 = .ok (.iload_n 0, 1) := by decide +kernel
theorem dX12_isDigit_7 : decode cX12_isDigit 7 = .ok (.bipush 57, 2) := by decide +kernel
theorem dX12_isDigit_9 : decode cX12_isDigit 9 = .ok (.if_icmp .gt 7, 3) := by decide +kernel
theorem dX12_isDigit_12 : decode cX12_isDigit 12 = .ok (.iconst 1, 1) := by decide +kernel
theorem dX12_isDigit_13 : decode cX12_isDigit 13 = .ok (.goto 4, 3) := by decide +kernel
theorem dX12_isDigit_16 : decode cX12_isDigit 16 = .ok (.iconst 0, 1) := by decide +kernel
theorem dX12_isDigit_17 : decode cX12_isDigit 17 = .ok (.ireturn, 1) := by decide +kernel
set_option maxHeartbeats 4000000 in
set_option maxRecDepth 100000 in
/-- isDigit(c) -/
theorem c_X12_isDigit (l : Launch) (dC : Nat → ClassId) (dI : Nat → Nat → Nat)  (q : Int32) (sz : Nat) : Met l yX12_isDigit wsX12_isDigit ({ frames := 0, cells := 0, slots := 0, locals := 0 }) (va_Pc [.int q] (fun U => U.heap.size = sz ∧ va_P (dC, dI) vwCl [] U.heap ∧ va_K (dC, dI) vwCl [] U ∧ va_D (fun _ => True) [])) (va_Qi (fun (r : Int32) (_w : Unit) => r = (if q < 48 then 0 else if q ≤ 57 then 1 else 0) ∧ True) (fun _ t => va_P (dC, dI) vwCl [] t.heap ∧ va_K (dC, dI) vwCl [] t ∧ va_D (va_A [] sz) []) (va_A [] sz)) 0 0 (va_A [] sz) := by
  refine Met.ofW (cc := cX12_isDigit) (maxL := 1) (ret := (some .boolean)) (by decide) rfl ?_
  intro p e s m args below meth c s₁ B hml hv
  obtain ⟨rfl, hsz, hP, hK, hD0⟩ := hv
  have hx := B.exec
  have hb := B.bytes
  have hr := B.returns
  have hts := atoms_spec (ws := wsX12_isDigit) B.pre
  have hown : s.vm.findClass RX12 = some m.cls := findClass_of_methodNamed B.named
  have hlocks := B.notSynchronized
  subst hsz
  have hD := hD0.self (sz := s.heap.size)
  generalize hAe : va_A [] s.heap.size = A at hD ⊢
  have hA : ∀ q : Nat, s.heap.size ≤ q → A q := fun q h => by rw [← hAe]; exact Or.inr h
  have hS : va_S A s.heap s.heap [] := va_S.rf
  have hP : va_P (dC, dI) vwCl [] s.heap := hP
  have hl := lv_entry ([.int q]) (n := 1) (Nat.le_of_ble_eq_true rfl)
  rw [lg_entry_eq]
  generalize (lg_sl ([.int q]) ++ List.replicate (1 - (lg_sl ([.int q])).length) Slot.unset).toArray = ls at hl ⊢
  have hl : lv_has ls 1 [(0, .int q)] := hl
  refine lv_iload_n hx hb dX12_isDigit_0 rfl (lv_at hl 0 rfl) ?_
  refine lv_bipush (v := 48) hx hb dX12_isDigit_1 (by decide) ?_
  refine lv_icmp_lt (tgt := 16) hx hb dX12_isDigit_3 (by decide) (fun c_3 => ?_) (fun c_3 => ?_)
  · refine lv_iconst (v := 0) hx hb dX12_isDigit_16 (by decide) ?_
    refine W.widen (k := 0) (n := 0) (by decide +kernel) (by decide +kernel) ?_
    exact W.zret (v := 0) hx hb hr rfl (fun t ht hW => ⟨⟨0, (), rfl, ⟨by simp [c_3], trivial⟩, by rw [ht]; exact hP, va_K.moved hW.alike hK, hD⟩, hS.F ht⟩) hS.2.2 dX12_isDigit_17
  · refine lv_iload_n hx hb dX12_isDigit_6 rfl (lv_at hl 0 rfl) ?_
    refine lv_bipush (v := 57) hx hb dX12_isDigit_7 (by decide) ?_
    refine lv_icmp_gt (tgt := 16) hx hb dX12_isDigit_9 (by decide) (fun c_9 => ?_) (fun c_9 => ?_)
    · refine lv_iconst (v := 0) hx hb dX12_isDigit_16 (by decide) ?_
      refine W.widen (k := 0) (n := 0) (by decide +kernel) (by decide +kernel) ?_
      exact W.zret (v := 0) hx hb hr rfl (fun t ht hW => ⟨⟨0, (), rfl, ⟨by simp [c_3, c_9], trivial⟩, by rw [ht]; exact hP, va_K.moved hW.alike hK, hD⟩, hS.F ht⟩) hS.2.2 dX12_isDigit_17
    · refine lv_iconst (v := 1) hx hb dX12_isDigit_12 (by decide) ?_
      refine lv_goto (tgt := 17) hx hb dX12_isDigit_13 (by decide) ?_
      refine W.widen (k := 0) (n := 0) (by decide +kernel) (by decide +kernel) ?_
      exact W.zret (v := 1) hx hb hr rfl (fun t ht hW => ⟨⟨1, (), rfl, ⟨by simp [c_3, c_9], trivial⟩, by rw [ht]; exact hP, va_K.moved hW.alike hK, hD⟩, hS.F ht⟩) hS.2.2 dX12_isDigit_17
def wsX12_place1 : List Cond := .code yX12_place1 cX12_place1 3 (some .int) :: ([.fieldLink RX12 396 "OptimaWorksModel" "columns" "I"] ++ wsX120)
theorem dX12_place1_0 : decode cX12_place1 0 = .ok (.iload_n 1, 1) := by decide +kernel
theorem dX12_place1_1 : decode cX12_place1 1 = .ok (.aload_n 0, 1) := by decide +kernel
theorem dX12_place1_2 : decode cX12_place1 2 = .ok (.getfield 396, 3) := by decide +kernel
theorem dX12_place1_5 : decode cX12_place1 5 = .ok (.iconst 1, 1) := by decide +kernel
theorem dX12_place1_6 : decode cX12_place1 6 = .ok (.iadd, 1) := by decide +kernel
theorem dX12_place1_7 : decode cX12_place1 7 = .ok (.imul, 1) := by decide +kernel
theorem dX12_place1_8 : decode cX12_place1 8 = .ok (.iload_n 2, 1) := by decide +kernel
theorem dX12_place1_9 : decode cX12_place1 9 = .ok (.iadd, 1) := by decide +kernel
theorem dX12_place1_10 : decode cX12_place1 10 = .ok (.ireturn, 1) := by decide +kernel
theorem iX12_place1_in12 : ∀ w ∈ wsX120, w ∈ wsX12_place1 := fun _ h => List.mem_cons_of_mem _ (List.mem_append_right _ h)
set_option maxHeartbeats 4000000 in
set_option maxRecDepth 100000 in
/-- place1(row, column) -/
theorem c_X12_place1 (l : Launch) (dC : Nat → ClassId) (dI : Nat → Nat → Nat) (h0 : Nat) (v : Nat → Value) (x_columns : Int32) (h_columns : v 5 = .int x_columns) (row : Int32) (col : Int32) (sz : Nat) : Met l yX12_place1 wsX12_place1 ({ frames := 0, cells := 0, slots := 0, locals := 0 }) (va_Pc [.ref h0, .int row, .int col] (fun U => U.heap.size = sz ∧ va_P (dC, dI) vwCl [(h0, .inr (12, fM v))] U.heap ∧ va_K (dC, dI) vwCl [] U ∧ va_D (fun _ => True) [(h0, .inr (12, fM v))])) (va_Qi (fun (r : Int32) (w : (Nat → Value)) => r = (row * (x_columns + 1) + col) ∧ w = v) (fun w t => va_P (dC, dI) vwCl [(h0, .inr (12, fM w))] t.heap ∧ va_K (dC, dI) vwCl [] t ∧ va_D (va_A [(h0, .inr (12, fM v))] sz) [(h0, .inr (12, fM w))]) (va_A [(h0, .inr (12, fM v))] sz)) 0 0 (va_A [(h0, .inr (12, fM v))] sz) := by
  refine Met.ofW (cc := cX12_place1) (maxL := 3) (ret := (some .int)) (by decide) rfl ?_
  intro p e s m args below meth c s₁ B hml hv
  obtain ⟨rfl, hsz, hP, hK, hD0⟩ := hv
  have hx := B.exec
  have hb := B.bytes
  have hr := B.returns
  have hts := atoms_spec (ws := wsX12_place1) B.pre
  have hown : s.vm.findClass RX12 = some m.cls := findClass_of_methodNamed B.named
  have hlocks := B.notSynchronized
  subst hsz
  have hD := hD0.self (sz := s.heap.size)
  generalize hAe : va_A [(h0, .inr (12, fM v))] s.heap.size = A at hD ⊢
  have hA : ∀ q : Nat, s.heap.size ≤ q → A q := fun q h => by rw [← hAe]; exact Or.inr h
  have hS : va_S A s.heap s.heap [] := va_S.rf
  have hP : va_P (dC, dI) vwCl [(h0, .inr (12, fM v))] s.heap := hP
  have hl := lv_entry ([.ref h0, .int row, .int col]) (n := 3) (Nat.le_of_ble_eq_true rfl)
  rw [lg_entry_eq]
  generalize (lg_sl ([.ref h0, .int row, .int col]) ++ List.replicate (3 - (lg_sl ([.ref h0, .int row, .int col])).length) Slot.unset).toArray = ls at hl ⊢
  have hl : lv_has ls 3 [(0, .ref h0), (1, .int row), (2, .int col)] := hl
  refine lv_iload_n hx hb dX12_place1_0 rfl (lv_at hl 1 rfl) ?_
  refine lv_aload_n hx hb dX12_place1_1 rfl (lv_at hl 0 rfl) ?_
  refine va_get (D := (dC, dI)) (ci := 12) (v := .int x_columns) (C := RX12) (T := TX12) (N := 163) hx hb hts iX12_place1_in12 hown hK hP 0 rfl rfl 5 (by decide) (hts (.fieldLink RX12 396 "OptimaWorksModel" "columns" "I") (by decide +kernel)) (fun _ h9 => h9) (congrArg some h_columns) dX12_place1_2 ?_
  refine lv_iconst (v := 1) hx hb dX12_place1_5 (by decide) ?_
  refine lv_iadd hx hb dX12_place1_6 ?_
  refine lv_imul hx hb dX12_place1_7 ?_
  refine lv_iload_n hx hb dX12_place1_8 rfl (lv_at hl 2 rfl) ?_
  refine lv_iadd hx hb dX12_place1_9 ?_
  refine W.widen (k := 0) (n := 0) (by decide +kernel) (by decide +kernel) ?_
  exact W.iret (v := ((row * (x_columns + 1)) + col)) hx hb hr (fun t ht hW => ⟨⟨((row * (x_columns + 1)) + col), (v), rfl, ⟨rfl, rfl⟩, by rw [ht]; exact hP, va_K.moved hW.alike hK, hD⟩, hS.F ht⟩) hS.2.2 dX12_place1_10
def wsX12_unsay : List Cond := .code yX12_unsay cX12_unsay 1 (some .boolean) :: ([.fieldLink RX12 348 "OptimaWorksModel" "thrown" "I", .fieldLink RX12 1051 "OptimaWorksModel" "clauses" "I"] ++ wsX120)
theorem dX12_unsay_0 : decode cX12_unsay 0 = .ok (.aload_n 0, 1) := by decide +kernel
theorem dX12_unsay_1 : decode cX12_unsay 1 = .ok (.iconst 0, 1) := by decide +kernel
theorem dX12_unsay_2 : decode cX12_unsay 2 = .ok (.putfield 348, 3) := by decide +kernel
theorem dX12_unsay_5 : decode cX12_unsay 5 = .ok (.aload_n 0, 1) := by decide +kernel
theorem dX12_unsay_6 : decode cX12_unsay 6 = .ok (.getfield 1051, 3) := by decide +kernel
theorem dX12_unsay_9 : decode cX12_unsay 9 = .ok (.ifCond .ne 5, 3) := by decide +kernel
theorem dX12_unsay_12 : decode cX12_unsay 12 = .ok (.iconst 0, 1) := by decide +kernel
theorem dX12_unsay_13 : decode cX12_unsay 13 = .ok (.ireturn, 1) := by decide +kernel
theorem dX12_unsay_14 : decode cX12_unsay 14 = .ok (.aload_n 0, 1) := by decide +kernel
theorem dX12_unsay_15 : decode cX12_unsay 15 = .ok (.dup, 1) := by decide +kernel
theorem dX12_unsay_16 : decode cX12_unsay 16 = .ok (.getfield 1051, 3) := by decide +kernel
theorem dX12_unsay_19 : decode cX12_unsay 19 = .ok (.iconst 1, 1) := by decide +kernel
theorem dX12_unsay_20 : decode cX12_unsay 20 = .ok (.isub, 1) := by decide +kernel
theorem dX12_unsay_21 : decode cX12_unsay 21 = .ok (.putfield 1051, 3) := by decide +kernel
theorem dX12_unsay_24 : decode cX12_unsay 24 = .ok (.iconst 1, 1) := by decide +kernel
theorem dX12_unsay_25 : decode cX12_unsay 25 = .ok (.ireturn, 1) := by decide +kernel
theorem iX12_unsay_in12 : ∀ w ∈ wsX120, w ∈ wsX12_unsay := fun _ h => List.mem_cons_of_mem _ (List.mem_append_right _ h)
set_option maxHeartbeats 4000000 in
set_option maxRecDepth 100000 in
/-- unsay() -/
theorem c_X12_unsay (l : Launch) (dC : Nat → ClassId) (dI : Nat → Nat → Nat) (h0 : Nat) (v : Nat → Value) (x_clauses : Int32) (h_clauses : v 146 = .int x_clauses)  (sz : Nat) : Met l yX12_unsay wsX12_unsay ({ frames := 0, cells := 0, slots := 0, locals := 0 }) (va_Pc [.ref h0] (fun U => U.heap.size = sz ∧ va_P (dC, dI) vwCl [(h0, .inr (12, fM v))] U.heap ∧ va_K (dC, dI) vwCl [] U ∧ va_D (fun _ => True) [(h0, .inr (12, fM v))])) (va_Qi (fun (r : Int32) (w : (Nat → Value)) => r = (if x_clauses = 0 then 0 else 1) ∧ w = if x_clauses = 0 then mUp v 0 (.int 0) else mUp (mUp v 0 (.int 0)) 146 (.int (x_clauses - 1))) (fun w t => va_P (dC, dI) vwCl [(h0, .inr (12, fM w))] t.heap ∧ va_K (dC, dI) vwCl [] t ∧ va_D (va_A [(h0, .inr (12, fM v))] sz) [(h0, .inr (12, fM w))]) (va_A [(h0, .inr (12, fM v))] sz)) 0 0 (va_A [(h0, .inr (12, fM v))] sz) := by
  refine Met.ofW (cc := cX12_unsay) (maxL := 1) (ret := (some .boolean)) (by decide) rfl ?_
  intro p e s m args below meth c s₁ B hml hv
  obtain ⟨rfl, hsz, hP, hK, hD0⟩ := hv
  have hx := B.exec
  have hb := B.bytes
  have hr := B.returns
  have hts := atoms_spec (ws := wsX12_unsay) B.pre
  have hown : s.vm.findClass RX12 = some m.cls := findClass_of_methodNamed B.named
  have hlocks := B.notSynchronized
  subst hsz
  have hD := hD0.self (sz := s.heap.size)
  generalize hAe : va_A [(h0, .inr (12, fM v))] s.heap.size = A at hD ⊢
  have hA : ∀ q : Nat, s.heap.size ≤ q → A q := fun q h => by rw [← hAe]; exact Or.inr h
  have hS : va_S A s.heap s.heap [] := va_S.rf
  have hP : va_P (dC, dI) vwCl [(h0, .inr (12, fM v))] s.heap := hP
  have hl := lv_entry ([.ref h0]) (n := 1) (Nat.le_of_ble_eq_true rfl)
  rw [lg_entry_eq]
  generalize (lg_sl ([.ref h0]) ++ List.replicate (1 - (lg_sl ([.ref h0])).length) Slot.unset).toArray = ls at hl ⊢
  have hl : lv_has ls 1 [(0, .ref h0)] := hl
  refine lv_aload_n hx hb dX12_unsay_0 rfl (lv_at hl 0 rfl) ?_
  refine lv_iconst (v := 0) hx hb dX12_unsay_1 (by decide) ?_
  refine va_put (D := (dC, dI)) (ci := 12) (v := .int 0) (ty := .int) (C := RX12) (T := TX12) (N := 163) hx hb hts iX12_unsay_in12 tyX12 tyX12_ok nmX12 hown hK hP hD hS 0 rfl rfl 0 (by decide) (hts (.fieldLink RX12 348 "OptimaWorksModel" "thrown" "I") (by decide +kernel)) (fun _ h9 => h9) rfl (by decide +kernel) rfl rfl (Nat.le_of_ble_eq_true rfl) dX12_unsay_2 (fun H locs hP hD hS => ?_)
  have hP : va_P (dC, dI) vwCl [(h0, .inr (12, fM (mUp v 0 (.int 0))))] H := hP
  have hD : va_D A [(h0, .inr (12, fM (mUp v 0 (.int 0))))] := hD
  refine lv_aload_n hx hb dX12_unsay_5 rfl (lv_at hl 0 rfl) ?_
  refine va_get (D := (dC, dI)) (ci := 12) (v := .int x_clauses) (C := RX12) (T := TX12) (N := 163) hx hb hts iX12_unsay_in12 hown hK hP 0 rfl rfl 146 (by decide) (hts (.fieldLink RX12 1051 "OptimaWorksModel" "clauses" "I") (by decide +kernel)) (fun _ h9 => h9) (congrArg some h_clauses) dX12_unsay_6 ?_
  refine lv_if_ne (tgt := 14) hx hb dX12_unsay_9 (by decide) (fun c_9 => ?_) (fun c_9 => ?_)
  · refine lv_aload_n hx hb dX12_unsay_14 rfl (lv_at hl 0 rfl) ?_
    refine lv_dup hx hb dX12_unsay_15 rfl ?_
    refine va_get (D := (dC, dI)) (ci := 12) (v := .int x_clauses) (C := RX12) (T := TX12) (N := 163) hx hb hts iX12_unsay_in12 hown hK hP 0 rfl rfl 146 (by decide) (hts (.fieldLink RX12 1051 "OptimaWorksModel" "clauses" "I") (by decide +kernel)) (fun _ h9 => h9) (congrArg some h_clauses) dX12_unsay_16 ?_
    refine lv_iconst (v := 1) hx hb dX12_unsay_19 (by decide) ?_
    refine lv_isub hx hb dX12_unsay_20 ?_
    refine va_put (D := (dC, dI)) (ci := 12) (v := .int (x_clauses - 1)) (ty := .int) (C := RX12) (T := TX12) (N := 163) hx hb hts iX12_unsay_in12 tyX12 tyX12_ok nmX12 hown hK hP hD hS 0 rfl rfl 146 (by decide) (hts (.fieldLink RX12 1051 "OptimaWorksModel" "clauses" "I") (by decide +kernel)) (fun _ h9 => h9) rfl (by decide +kernel) rfl rfl (Nat.le_of_ble_eq_true rfl) dX12_unsay_21 (fun H locs hP hD hS => ?_)
    have hP : va_P (dC, dI) vwCl [(h0, .inr (12, fM (mUp (mUp v 0 (.int 0)) 146 (.int (x_clauses - 1)))))] H := hP
    have hD : va_D A [(h0, .inr (12, fM (mUp (mUp v 0 (.int 0)) 146 (.int (x_clauses - 1)))))] := hD
    refine lv_iconst (v := 1) hx hb dX12_unsay_24 (by decide) ?_
    refine W.widen (k := 0) (n := 0) (by decide +kernel) (by decide +kernel) ?_
    exact W.zret (v := 1) hx hb hr rfl (fun t ht hW => ⟨⟨1, (mUp (mUp v 0 (.int 0)) 146 (.int (x_clauses - 1))), rfl, ⟨by simp [c_9], by simp [c_9]⟩, by rw [ht]; exact hP, va_K.moved hW.alike hK, hD⟩, hS.F ht⟩) hS.2.2 dX12_unsay_25
  · refine lv_iconst (v := 0) hx hb dX12_unsay_12 (by decide) ?_
    refine W.widen (k := 0) (n := 0) (by decide +kernel) (by decide +kernel) ?_
    exact W.zret (v := 0) hx hb hr rfl (fun t ht hW => ⟨⟨0, (mUp v 0 (.int 0)), rfl, ⟨by simp [c_9], by simp [c_9]⟩, by rw [ht]; exact hP, va_K.moved hW.alike hK, hD⟩, hS.F ht⟩) hS.2.2 dX12_unsay_13
def wsX12_unarc : List Cond := .code yX12_unarc cX12_unarc 1 (some .boolean) :: ([.fieldLink RX12 348 "OptimaWorksModel" "thrown" "I", .fieldLink RX12 1069 "OptimaWorksModel" "arcs" "I"] ++ wsX120)
theorem dX12_unarc_0 : decode cX12_unarc 0 = .ok (.aload_n 0, 1) := by decide +kernel
theorem dX12_unarc_1 : decode cX12_unarc 1 = .ok (.iconst 0, 1) := by decide +kernel
theorem dX12_unarc_2 : decode cX12_unarc 2 = .ok (.putfield 348, 3) := by decide +kernel
theorem dX12_unarc_5 : decode cX12_unarc 5 = .ok (.aload_n 0, 1) := by decide +kernel
theorem dX12_unarc_6 : decode cX12_unarc 6 = .ok (.getfield 1069, 3) := by decide +kernel
theorem dX12_unarc_9 : decode cX12_unarc 9 = .ok (.ifCond .ne 5, 3) := by decide +kernel
theorem dX12_unarc_12 : decode cX12_unarc 12 = .ok (.iconst 0, 1) := by decide +kernel
theorem dX12_unarc_13 : decode cX12_unarc 13 = .ok (.ireturn, 1) := by decide +kernel
theorem dX12_unarc_14 : decode cX12_unarc 14 = .ok (.aload_n 0, 1) := by decide +kernel
theorem dX12_unarc_15 : decode cX12_unarc 15 = .ok (.dup, 1) := by decide +kernel
theorem dX12_unarc_16 : decode cX12_unarc 16 = .ok (.getfield 1069, 3) := by decide +kernel
theorem dX12_unarc_19 : decode cX12_unarc 19 = .ok (.iconst 1, 1) := by decide +kernel
theorem dX12_unarc_20 : decode cX12_unarc 20 = .ok (.isub, 1) := by decide +kernel
theorem dX12_unarc_21 : decode cX12_unarc 21 = .ok (.putfield 1069, 3) := by decide +kernel
theorem dX12_unarc_24 : decode cX12_unarc 24 = .ok (.iconst 1, 1) := by decide +kernel
theorem dX12_unarc_25 : decode cX12_unarc 25 = .ok (.ireturn, 1) := by decide +kernel
theorem iX12_unarc_in12 : ∀ w ∈ wsX120, w ∈ wsX12_unarc := fun _ h => List.mem_cons_of_mem _ (List.mem_append_right _ h)
set_option maxHeartbeats 4000000 in
set_option maxRecDepth 100000 in
/-- unarc() -/
theorem c_X12_unarc (l : Launch) (dC : Nat → ClassId) (dI : Nat → Nat → Nat) (h0 : Nat) (v : Nat → Value) (x_arcs : Int32) (h_arcs : v 150 = .int x_arcs)  (sz : Nat) : Met l yX12_unarc wsX12_unarc ({ frames := 0, cells := 0, slots := 0, locals := 0 }) (va_Pc [.ref h0] (fun U => U.heap.size = sz ∧ va_P (dC, dI) vwCl [(h0, .inr (12, fM v))] U.heap ∧ va_K (dC, dI) vwCl [] U ∧ va_D (fun _ => True) [(h0, .inr (12, fM v))])) (va_Qi (fun (r : Int32) (w : (Nat → Value)) => r = (if x_arcs = 0 then 0 else 1) ∧ w = if x_arcs = 0 then mUp v 0 (.int 0) else mUp (mUp v 0 (.int 0)) 150 (.int (x_arcs - 1))) (fun w t => va_P (dC, dI) vwCl [(h0, .inr (12, fM w))] t.heap ∧ va_K (dC, dI) vwCl [] t ∧ va_D (va_A [(h0, .inr (12, fM v))] sz) [(h0, .inr (12, fM w))]) (va_A [(h0, .inr (12, fM v))] sz)) 0 0 (va_A [(h0, .inr (12, fM v))] sz) := by
  refine Met.ofW (cc := cX12_unarc) (maxL := 1) (ret := (some .boolean)) (by decide) rfl ?_
  intro p e s m args below meth c s₁ B hml hv
  obtain ⟨rfl, hsz, hP, hK, hD0⟩ := hv
  have hx := B.exec
  have hb := B.bytes
  have hr := B.returns
  have hts := atoms_spec (ws := wsX12_unarc) B.pre
  have hown : s.vm.findClass RX12 = some m.cls := findClass_of_methodNamed B.named
  have hlocks := B.notSynchronized
  subst hsz
  have hD := hD0.self (sz := s.heap.size)
  generalize hAe : va_A [(h0, .inr (12, fM v))] s.heap.size = A at hD ⊢
  have hA : ∀ q : Nat, s.heap.size ≤ q → A q := fun q h => by rw [← hAe]; exact Or.inr h
  have hS : va_S A s.heap s.heap [] := va_S.rf
  have hP : va_P (dC, dI) vwCl [(h0, .inr (12, fM v))] s.heap := hP
  have hl := lv_entry ([.ref h0]) (n := 1) (Nat.le_of_ble_eq_true rfl)
  rw [lg_entry_eq]
  generalize (lg_sl ([.ref h0]) ++ List.replicate (1 - (lg_sl ([.ref h0])).length) Slot.unset).toArray = ls at hl ⊢
  have hl : lv_has ls 1 [(0, .ref h0)] := hl
  refine lv_aload_n hx hb dX12_unarc_0 rfl (lv_at hl 0 rfl) ?_
  refine lv_iconst (v := 0) hx hb dX12_unarc_1 (by decide) ?_
  refine va_put (D := (dC, dI)) (ci := 12) (v := .int 0) (ty := .int) (C := RX12) (T := TX12) (N := 163) hx hb hts iX12_unarc_in12 tyX12 tyX12_ok nmX12 hown hK hP hD hS 0 rfl rfl 0 (by decide) (hts (.fieldLink RX12 348 "OptimaWorksModel" "thrown" "I") (by decide +kernel)) (fun _ h9 => h9) rfl (by decide +kernel) rfl rfl (Nat.le_of_ble_eq_true rfl) dX12_unarc_2 (fun H locs hP hD hS => ?_)
  have hP : va_P (dC, dI) vwCl [(h0, .inr (12, fM (mUp v 0 (.int 0))))] H := hP
  have hD : va_D A [(h0, .inr (12, fM (mUp v 0 (.int 0))))] := hD
  refine lv_aload_n hx hb dX12_unarc_5 rfl (lv_at hl 0 rfl) ?_
  refine va_get (D := (dC, dI)) (ci := 12) (v := .int x_arcs) (C := RX12) (T := TX12) (N := 163) hx hb hts iX12_unarc_in12 hown hK hP 0 rfl rfl 150 (by decide) (hts (.fieldLink RX12 1069 "OptimaWorksModel" "arcs" "I") (by decide +kernel)) (fun _ h9 => h9) (congrArg some h_arcs) dX12_unarc_6 ?_
  refine lv_if_ne (tgt := 14) hx hb dX12_unarc_9 (by decide) (fun c_9 => ?_) (fun c_9 => ?_)
  · refine lv_aload_n hx hb dX12_unarc_14 rfl (lv_at hl 0 rfl) ?_
    refine lv_dup hx hb dX12_unarc_15 rfl ?_
    refine va_get (D := (dC, dI)) (ci := 12) (v := .int x_arcs) (C := RX12) (T := TX12) (N := 163) hx hb hts iX12_unarc_in12 hown hK hP 0 rfl rfl 150 (by decide) (hts (.fieldLink RX12 1069 "OptimaWorksModel" "arcs" "I") (by decide +kernel)) (fun _ h9 => h9) (congrArg some h_arcs) dX12_unarc_16 ?_
    refine lv_iconst (v := 1) hx hb dX12_unarc_19 (by decide) ?_
    refine lv_isub hx hb dX12_unarc_20 ?_
    refine va_put (D := (dC, dI)) (ci := 12) (v := .int (x_arcs - 1)) (ty := .int) (C := RX12) (T := TX12) (N := 163) hx hb hts iX12_unarc_in12 tyX12 tyX12_ok nmX12 hown hK hP hD hS 0 rfl rfl 150 (by decide) (hts (.fieldLink RX12 1069 "OptimaWorksModel" "arcs" "I") (by decide +kernel)) (fun _ h9 => h9) rfl (by decide +kernel) rfl rfl (Nat.le_of_ble_eq_true rfl) dX12_unarc_21 (fun H locs hP hD hS => ?_)
    have hP : va_P (dC, dI) vwCl [(h0, .inr (12, fM (mUp (mUp v 0 (.int 0)) 150 (.int (x_arcs - 1)))))] H := hP
    have hD : va_D A [(h0, .inr (12, fM (mUp (mUp v 0 (.int 0)) 150 (.int (x_arcs - 1)))))] := hD
    refine lv_iconst (v := 1) hx hb dX12_unarc_24 (by decide) ?_
    refine W.widen (k := 0) (n := 0) (by decide +kernel) (by decide +kernel) ?_
    exact W.zret (v := 1) hx hb hr rfl (fun t ht hW => ⟨⟨1, (mUp (mUp v 0 (.int 0)) 150 (.int (x_arcs - 1))), rfl, ⟨by simp [c_9], by simp [c_9]⟩, by rw [ht]; exact hP, va_K.moved hW.alike hK, hD⟩, hS.F ht⟩) hS.2.2 dX12_unarc_25
  · refine lv_iconst (v := 0) hx hb dX12_unarc_12 (by decide) ?_
    refine W.widen (k := 0) (n := 0) (by decide +kernel) (by decide +kernel) ?_
    exact W.zret (v := 0) hx hb hr rfl (fun t ht hW => ⟨⟨0, (mUp v 0 (.int 0)), rfl, ⟨by simp [c_9], by simp [c_9]⟩, by rw [ht]; exact hP, va_K.moved hW.alike hK, hD⟩, hS.F ht⟩) hS.2.2 dX12_unarc_13
end
section
def wsX11_wipe : List Cond := .code yX11_wipe cX11_wipe 1 none :: ([.fieldLink RX11 16 "OptimaWorks" "words" "LOptimaWorks$Words;", .fieldLink RX11 31 "OptimaWorks$Words" "length" "I"] ++ wsX110 ++ wsX90)
theorem dX11_wipe_0 : decode cX11_wipe 0 = .ok (.aload_n 0, 1) := by decide +kernel
theorem dX11_wipe_1 : decode cX11_wipe 1 = .ok (.getfield 16, 3) := by decide +kernel
theorem dX11_wipe_4 : decode cX11_wipe 4 = .ok (.iconst 0, 1) := by decide +kernel
theorem dX11_wipe_5 : decode cX11_wipe 5 = .ok (.putfield 31, 3) := by decide +kernel
theorem dX11_wipe_8 : decode cX11_wipe 8 = .ok (.return_, 1) := by decide +kernel
theorem iX11_wipe_in9 : ∀ w ∈ wsX90, w ∈ wsX11_wipe := fun _ h => List.mem_cons_of_mem _ (List.mem_append_right _ h)
theorem iX11_wipe_in11 : ∀ w ∈ wsX110, w ∈ wsX11_wipe := fun _ h => List.mem_cons_of_mem _ (List.mem_append_left _ (List.mem_append_right _ h))
set_option maxHeartbeats 4000000 in
set_option maxRecDepth 100000 in
/-- wipe(): the tape is empty -/
theorem c_X11_wipe (l : Launch) (dC : Nat → ClassId) (dI : Nat → Nat → Nat) (h0 : Nat) (a0 a1 a2 a3 : Nat) (sl : Int32) (f5 f6 f7 f8 f9 f10 : Value) (tp : Nat) (len flt plc knd wat num : Int32) (nam : Int64) (nxt : Int32) (sz : Nat) : Met l yX11_wipe wsX11_wipe ({ frames := 0, cells := 0, slots := 0, locals := 0 }) (va_Pc [.ref h0] (fun U => U.heap.size = sz ∧ va_P (dC, dI) vwCl [(h0, .inr (11, [.ref a0, .ref a1, .ref a2, .ref a3, .int sl, f5, f6, f7, f8, f9, f10])), (a1, .inr (9, [.ref tp, .int len, .int flt, .int plc, .int knd, .int wat, .int num, .long nam, .int nxt]))] U.heap ∧ va_K (dC, dI) vwCl [] U ∧ va_D (fun _ => True) [(h0, .inr (11, [.ref a0, .ref a1, .ref a2, .ref a3, .int sl, f5, f6, f7, f8, f9, f10])), (a1, .inr (9, [.ref tp, .int len, .int flt, .int plc, .int knd, .int wat, .int num, .long nam, .int nxt]))])) (va_Qv (fun _ : Unit => True) (fun u t => va_P (dC, dI) vwCl [(h0, .inr (11, [.ref a0, .ref a1, .ref a2, .ref a3, .int sl, f5, f6, f7, f8, f9, f10])), (a1, .inr (9, [.ref tp, .int 0, .int flt, .int plc, .int knd, .int wat, .int num, .long nam, .int nxt]))] t.heap ∧ va_K (dC, dI) vwCl [] t ∧ va_D (va_A [(h0, .inr (11, [.ref a0, .ref a1, .ref a2, .ref a3, .int sl, f5, f6, f7, f8, f9, f10])), (a1, .inr (9, [.ref tp, .int len, .int flt, .int plc, .int knd, .int wat, .int num, .long nam, .int nxt]))] sz) [(h0, .inr (11, [.ref a0, .ref a1, .ref a2, .ref a3, .int sl, f5, f6, f7, f8, f9, f10])), (a1, .inr (9, [.ref tp, .int 0, .int flt, .int plc, .int knd, .int wat, .int num, .long nam, .int nxt]))]) (va_A [(h0, .inr (11, [.ref a0, .ref a1, .ref a2, .ref a3, .int sl, f5, f6, f7, f8, f9, f10])), (a1, .inr (9, [.ref tp, .int len, .int flt, .int plc, .int knd, .int wat, .int num, .long nam, .int nxt]))] sz)) 0 0 (va_A [(h0, .inr (11, [.ref a0, .ref a1, .ref a2, .ref a3, .int sl, f5, f6, f7, f8, f9, f10])), (a1, .inr (9, [.ref tp, .int len, .int flt, .int plc, .int knd, .int wat, .int num, .long nam, .int nxt]))] sz) := by
  refine Met.ofW (cc := cX11_wipe) (maxL := 1) (ret := none) (by decide) rfl ?_
  intro p e s m args below meth c s₁ B hml hv
  obtain ⟨rfl, hsz, hP, hK, hD0⟩ := hv
  have hx := B.exec
  have hb := B.bytes
  have hr := B.returns
  have hts := atoms_spec (ws := wsX11_wipe) B.pre
  have hown : s.vm.findClass RX11 = some m.cls := findClass_of_methodNamed B.named
  have hlocks := B.notSynchronized
  subst hsz
  have hD := hD0.self (sz := s.heap.size)
  generalize hAe : va_A [(h0, .inr (11, [.ref a0, .ref a1, .ref a2, .ref a3, .int sl, f5, f6, f7, f8, f9, f10])), (a1, .inr (9, [.ref tp, .int len, .int flt, .int plc, .int knd, .int wat, .int num, .long nam, .int nxt]))] s.heap.size = A at hD ⊢
  have hA : ∀ q : Nat, s.heap.size ≤ q → A q := fun q h => by rw [← hAe]; exact Or.inr h
  have hS : va_S A s.heap s.heap [] := va_S.rf
  have hP : va_P (dC, dI) vwCl [(h0, .inr (11, [.ref a0, .ref a1, .ref a2, .ref a3, .int sl, f5, f6, f7, f8, f9, f10])), (a1, .inr (9, [.ref tp, .int len, .int flt, .int plc, .int knd, .int wat, .int num, .long nam, .int nxt]))] s.heap := hP
  have hl := lv_entry ([.ref h0]) (n := 1) (Nat.le_of_ble_eq_true rfl)
  rw [lg_entry_eq]
  generalize (lg_sl ([.ref h0]) ++ List.replicate (1 - (lg_sl ([.ref h0])).length) Slot.unset).toArray = ls at hl ⊢
  have hl : lv_has ls 1 [(0, .ref h0)] := hl
  refine lv_aload_n hx hb dX11_wipe_0 rfl (lv_at hl 0 rfl) ?_
  refine va_get (D := (dC, dI)) (ci := 11) (v := .ref a1) (C := RX11) (T := TX11) (N := 11) hx hb hts iX11_wipe_in11 hown hK hP 0 rfl rfl 1 (by decide) (hts (.fieldLink RX11 16 "OptimaWorks" "words" "LOptimaWorks$Words;") (by decide +kernel)) (fun _ h9 => h9) rfl dX11_wipe_1 ?_
  refine lv_iconst (v := 0) hx hb dX11_wipe_4 (by decide) ?_
  refine va_put (D := (dC, dI)) (ci := 9) (v := .int 0) (ty := .int) (C := RX9) (T := TX9) (N := 9) hx hb hts iX11_wipe_in9 tyX9 tyX9_ok nmX9 hown hK hP hD hS 1 rfl rfl 1 (by decide) (hts (.fieldLink RX11 31 "OptimaWorks$Words" "length" "I") (by decide +kernel)) (fun _ h9 => h9) rfl (by decide +kernel) rfl rfl (Nat.le_of_ble_eq_true rfl) dX11_wipe_5 (fun H locs hP hD hS => ?_)
  have hP : va_P (dC, dI) vwCl [(h0, .inr (11, [.ref a0, .ref a1, .ref a2, .ref a3, .int sl, f5, f6, f7, f8, f9, f10])), (a1, .inr (9, [.ref tp, .int 0, .int flt, .int plc, .int knd, .int wat, .int num, .long nam, .int nxt]))] H := hP
  have hD : va_D A [(h0, .inr (11, [.ref a0, .ref a1, .ref a2, .ref a3, .int sl, f5, f6, f7, f8, f9, f10])), (a1, .inr (9, [.ref tp, .int 0, .int flt, .int plc, .int knd, .int wat, .int num, .long nam, .int nxt]))] := hD
  refine W.widen (k := 0) (n := 0) (by decide +kernel) (by decide +kernel) ?_
  exact W.vret hx hb hr (fun t ht hW => ⟨⟨(), rfl, trivial, by rw [ht]; exact hP, va_K.moved hW.alike hK, hD⟩, hS.F ht⟩) hS.2.2 dX11_wipe_8
def wsX11_fault : List Cond := .code yX11_fault cX11_fault 2 (some .int) :: ([.fieldLink RX11 16 "OptimaWorks" "words" "LOptimaWorks$Words;", .fieldLink RX11 87 "OptimaWorks$Words" "fault" "I", .fieldLink RX11 90 "OptimaWorks$Words" "place" "I"] ++ wsX110 ++ wsX90)
theorem dX11_fault_0 : decode cX11_fault 0 = .ok (.iload_n 1, 1) := by decide +kernel
theorem dX11_fault_1 : decode cX11_fault 1 = .ok (.ifCond .ne 11, 3) := by decide +kernel
theorem dX11_fault_4 : decode cX11_fault 4 = .ok (.aload_n 0, 1) := by decide +kernel
theorem dX11_fault_5 : decode cX11_fault 5 = .ok (.getfield 16, 3) := by decide +kernel
theorem dX11_fault_8 : decode cX11_fault 8 = .ok (.getfield 87, 3) := by decide +kernel
theorem dX11_fault_11 : decode cX11_fault 11 = .ok (.ireturn, 1) := by decide +kernel
theorem dX11_fault_12 : decode cX11_fault 12 = .ok (.iload_n 1, 1) := by decide +kernel
theorem dX11_fault_13 : decode cX11_fault 13 = .ok (.iconst 1, 1) := by decide +kernel
theorem dX11_fault_14 : decode cX11_fault 14 = .ok (.if_icmp .ne 23, 3) := by decide +kernel
theorem dX11_fault_17 : decode cX11_fault 17 = .ok (.aload_n 0, 1) := by decide +kernel
theorem dX11_fault_18 : decode cX11_fault 18 = .ok (.getfield 16, 3) := by decide +kernel
theorem dX11_fault_21 : decode cX11_fault 21 = .ok (.getfield 87, 3) := by decide +kernel
theorem dX11_fault_24 : decode cX11_fault 24 = .ok (.ifCond .eq 13, 3) := by decide +kernel
theorem dX11_fault_27 : decode cX11_fault 27 = .ok (.aload_n 0, 1) := by decide +kernel
theorem dX11_fault_28 : decode cX11_fault 28 = .ok (.getfield 16, 3) := by decide +kernel
theorem dX11_fault_31 : decode cX11_fault 31 = .ok (.getfield 90, 3) := by decide +kernel
theorem dX11_fault_34 : decode cX11_fault 34 = .ok (.goto 4, 3) := by decide +kernel
theorem dX11_fault_37 : decode cX11_fault 37 = .ok (.iconst (-1), 1) := by decide +kernel
theorem dX11_fault_38 : decode cX11_fault 38 = .ok (.ireturn, 1) := by decide +kernel
theorem iX11_fault_in9 : ∀ w ∈ wsX90, w ∈ wsX11_fault := fun _ h => List.mem_cons_of_mem _ (List.mem_append_right _ h)
theorem iX11_fault_in11 : ∀ w ∈ wsX110, w ∈ wsX11_fault := fun _ h => List.mem_cons_of_mem _ (List.mem_append_left _ (List.mem_append_right _ h))
set_option maxHeartbeats 4000000 in
set_option maxRecDepth 100000 in
/-- fault(what) -/
theorem c_X11_fault (l : Launch) (dC : Nat → ClassId) (dI : Nat → Nat → Nat) (h0 : Nat) (a0 a1 a2 a3 : Nat) (sl : Int32) (f5 f6 f7 f8 f9 f10 : Value) (tp : Nat) (len flt plc knd wat num : Int32) (nam : Int64) (nxt : Int32) (what : Int32) (sz : Nat) : Met l yX11_fault wsX11_fault ({ frames := 0, cells := 0, slots := 0, locals := 0 }) (va_Pc [.ref h0, .int what] (fun U => U.heap.size = sz ∧ va_P (dC, dI) vwCl [(h0, .inr (11, [.ref a0, .ref a1, .ref a2, .ref a3, .int sl, f5, f6, f7, f8, f9, f10])), (a1, .inr (9, [.ref tp, .int len, .int flt, .int plc, .int knd, .int wat, .int num, .long nam, .int nxt]))] U.heap ∧ va_K (dC, dI) vwCl [] U ∧ va_D (fun _ => True) [(h0, .inr (11, [.ref a0, .ref a1, .ref a2, .ref a3, .int sl, f5, f6, f7, f8, f9, f10])), (a1, .inr (9, [.ref tp, .int len, .int flt, .int plc, .int knd, .int wat, .int num, .long nam, .int nxt]))])) (va_Qi (fun (r : Int32) (_u : Unit) => r = (if what = 0 then flt else if what = 1 then (if flt = 0 then -1 else plc) else -1)) (fun u t => va_P (dC, dI) vwCl [(h0, .inr (11, [.ref a0, .ref a1, .ref a2, .ref a3, .int sl, f5, f6, f7, f8, f9, f10])), (a1, .inr (9, [.ref tp, .int len, .int flt, .int plc, .int knd, .int wat, .int num, .long nam, .int nxt]))] t.heap ∧ va_K (dC, dI) vwCl [] t ∧ va_D (va_A [(h0, .inr (11, [.ref a0, .ref a1, .ref a2, .ref a3, .int sl, f5, f6, f7, f8, f9, f10])), (a1, .inr (9, [.ref tp, .int len, .int flt, .int plc, .int knd, .int wat, .int num, .long nam, .int nxt]))] sz) [(h0, .inr (11, [.ref a0, .ref a1, .ref a2, .ref a3, .int sl, f5, f6, f7, f8, f9, f10])), (a1, .inr (9, [.ref tp, .int len, .int flt, .int plc, .int knd, .int wat, .int num, .long nam, .int nxt]))]) (va_A [(h0, .inr (11, [.ref a0, .ref a1, .ref a2, .ref a3, .int sl, f5, f6, f7, f8, f9, f10])), (a1, .inr (9, [.ref tp, .int len, .int flt, .int plc, .int knd, .int wat, .int num, .long nam, .int nxt]))] sz)) 0 0 (va_A [(h0, .inr (11, [.ref a0, .ref a1, .ref a2, .ref a3, .int sl, f5, f6, f7, f8, f9, f10])), (a1, .inr (9, [.ref tp, .int len, .int flt, .int plc, .int knd, .int wat, .int num, .long nam, .int nxt]))] sz) := by
  refine Met.ofW (cc := cX11_fault) (maxL := 2) (ret := (some .int)) (by decide) rfl ?_
  intro p e s m args below meth c s₁ B hml hv
  obtain ⟨rfl, hsz, hP, hK, hD0⟩ := hv
  have hx := B.exec
  have hb := B.bytes
  have hr := B.returns
  have hts := atoms_spec (ws := wsX11_fault) B.pre
  have hown : s.vm.findClass RX11 = some m.cls := findClass_of_methodNamed B.named
  have hlocks := B.notSynchronized
  subst hsz
  have hD := hD0.self (sz := s.heap.size)
  generalize hAe : va_A [(h0, .inr (11, [.ref a0, .ref a1, .ref a2, .ref a3, .int sl, f5, f6, f7, f8, f9, f10])), (a1, .inr (9, [.ref tp, .int len, .int flt, .int plc, .int knd, .int wat, .int num, .long nam, .int nxt]))] s.heap.size = A at hD ⊢
  have hA : ∀ q : Nat, s.heap.size ≤ q → A q := fun q h => by rw [← hAe]; exact Or.inr h
  have hS : va_S A s.heap s.heap [] := va_S.rf
  have hP : va_P (dC, dI) vwCl [(h0, .inr (11, [.ref a0, .ref a1, .ref a2, .ref a3, .int sl, f5, f6, f7, f8, f9, f10])), (a1, .inr (9, [.ref tp, .int len, .int flt, .int plc, .int knd, .int wat, .int num, .long nam, .int nxt]))] s.heap := hP
  have hl := lv_entry ([.ref h0, .int what]) (n := 2) (Nat.le_of_ble_eq_true rfl)
  rw [lg_entry_eq]
  generalize (lg_sl ([.ref h0, .int what]) ++ List.replicate (2 - (lg_sl ([.ref h0, .int what])).length) Slot.unset).toArray = ls at hl ⊢
  have hl : lv_has ls 2 [(0, .ref h0), (1, .int what)] := hl
  refine lv_iload_n hx hb dX11_fault_0 rfl (lv_at hl 1 rfl) ?_
  refine lv_if_ne (tgt := 12) hx hb dX11_fault_1 (by decide) (fun c_1 => ?_) (fun c_1 => ?_)
  · refine lv_iload_n hx hb dX11_fault_12 rfl (lv_at hl 1 rfl) ?_
    refine lv_iconst (v := 1) hx hb dX11_fault_13 (by decide) ?_
    refine lv_icmp_ne (tgt := 37) hx hb dX11_fault_14 (by decide) (fun c_14 => ?_) (fun c_14 => ?_)
    · refine lv_iconst (v := (-1)) hx hb dX11_fault_37 (by decide) ?_
      refine W.widen (k := 0) (n := 0) (by decide +kernel) (by decide +kernel) ?_
      exact W.iret (v := (-1)) hx hb hr (fun t ht hW => ⟨⟨(-1), (), rfl, by simp [c_1, c_14], by rw [ht]; exact hP, va_K.moved hW.alike hK, hD⟩, hS.F ht⟩) hS.2.2 dX11_fault_38
    · refine lv_aload_n hx hb dX11_fault_17 rfl (lv_at hl 0 rfl) ?_
      refine va_get (D := (dC, dI)) (ci := 11) (v := .ref a1) (C := RX11) (T := TX11) (N := 11) hx hb hts iX11_fault_in11 hown hK hP 0 rfl rfl 1 (by decide) (hts (.fieldLink RX11 16 "OptimaWorks" "words" "LOptimaWorks$Words;") (by decide +kernel)) (fun _ h9 => h9) rfl dX11_fault_18 ?_
      refine va_get (D := (dC, dI)) (ci := 9) (v := .int flt) (C := RX9) (T := TX9) (N := 9) hx hb hts iX11_fault_in9 hown hK hP 1 rfl rfl 2 (by decide) (hts (.fieldLink RX11 87 "OptimaWorks$Words" "fault" "I") (by decide +kernel)) (fun _ h9 => h9) rfl dX11_fault_21 ?_
      refine lv_if_eq (tgt := 37) hx hb dX11_fault_24 (by decide) (fun c_24 => ?_) (fun c_24 => ?_)
      · refine lv_iconst (v := (-1)) hx hb dX11_fault_37 (by decide) ?_
        refine W.widen (k := 0) (n := 0) (by decide +kernel) (by decide +kernel) ?_
        exact W.iret (v := (-1)) hx hb hr (fun t ht hW => ⟨⟨(-1), (), rfl, by simp [c_1, c_14, c_24], by rw [ht]; exact hP, va_K.moved hW.alike hK, hD⟩, hS.F ht⟩) hS.2.2 dX11_fault_38
      · refine lv_aload_n hx hb dX11_fault_27 rfl (lv_at hl 0 rfl) ?_
        refine va_get (D := (dC, dI)) (ci := 11) (v := .ref a1) (C := RX11) (T := TX11) (N := 11) hx hb hts iX11_fault_in11 hown hK hP 0 rfl rfl 1 (by decide) (hts (.fieldLink RX11 16 "OptimaWorks" "words" "LOptimaWorks$Words;") (by decide +kernel)) (fun _ h9 => h9) rfl dX11_fault_28 ?_
        refine va_get (D := (dC, dI)) (ci := 9) (v := .int plc) (C := RX9) (T := TX9) (N := 9) hx hb hts iX11_fault_in9 hown hK hP 1 rfl rfl 3 (by decide) (hts (.fieldLink RX11 90 "OptimaWorks$Words" "place" "I") (by decide +kernel)) (fun _ h9 => h9) rfl dX11_fault_31 ?_
        refine lv_goto (tgt := 38) hx hb dX11_fault_34 (by decide) ?_
        refine W.widen (k := 0) (n := 0) (by decide +kernel) (by decide +kernel) ?_
        exact W.iret (v := plc) hx hb hr (fun t ht hW => ⟨⟨plc, (), rfl, by simp [c_1, c_14, c_24], by rw [ht]; exact hP, va_K.moved hW.alike hK, hD⟩, hS.F ht⟩) hS.2.2 dX11_fault_38
  · refine lv_aload_n hx hb dX11_fault_4 rfl (lv_at hl 0 rfl) ?_
    refine va_get (D := (dC, dI)) (ci := 11) (v := .ref a1) (C := RX11) (T := TX11) (N := 11) hx hb hts iX11_fault_in11 hown hK hP 0 rfl rfl 1 (by decide) (hts (.fieldLink RX11 16 "OptimaWorks" "words" "LOptimaWorks$Words;") (by decide +kernel)) (fun _ h9 => h9) rfl dX11_fault_5 ?_
    refine va_get (D := (dC, dI)) (ci := 9) (v := .int flt) (C := RX9) (T := TX9) (N := 9) hx hb hts iX11_fault_in9 hown hK hP 1 rfl rfl 2 (by decide) (hts (.fieldLink RX11 87 "OptimaWorks$Words" "fault" "I") (by decide +kernel)) (fun _ h9 => h9) rfl dX11_fault_8 ?_
    refine W.widen (k := 0) (n := 0) (by decide +kernel) (by decide +kernel) ?_
    exact W.iret (v := flt) hx hb hr (fun t ht hW => ⟨⟨flt, (), rfl, by simp [c_1], by rw [ht]; exact hP, va_K.moved hW.alike hK, hD⟩, hS.F ht⟩) hS.2.2 dX11_fault_11
def wsX11_feed : List Cond := .code yX11_feed cX11_feed 6 none :: ([.fieldLink RX11 9 "OptimaWorks" "ready" "[I"] ++ wsX110)
theorem dX11_feed_0 : decode cX11_feed 0 = .ok (.aload_n 0, 1) := by decide +kernel
theorem dX11_feed_1 : decode cX11_feed 1 = .ok (.getfield 9, 3) := by decide +kernel
theorem dX11_feed_4 : decode cX11_feed 4 = .ok (.iconst 0, 1) := by decide +kernel
theorem dX11_feed_5 : decode cX11_feed 5 = .ok (.iload_n 1, 1) := by decide +kernel
theorem dX11_feed_6 : decode cX11_feed 6 = .ok (.iastore, 1) := by decide +kernel
theorem dX11_feed_7 : decode cX11_feed 7 = .ok (.aload_n 0, 1) := by decide +kernel
theorem dX11_feed_8 : decode cX11_feed 8 = .ok (.getfield 9, 3) := by decide +kernel
theorem dX11_feed_11 : decode cX11_feed 11 = .ok (.iconst 1, 1) := by decide +kernel
theorem dX11_feed_12 : decode cX11_feed 12 = .ok (.iload_n 2, 1) := by decide +kernel
theorem dX11_feed_13 : decode cX11_feed 13 = .ok (.iastore, 1) := by decide +kernel
theorem dX11_feed_14 : decode cX11_feed 14 = .ok (.aload_n 0, 1) := by decide +kernel
theorem dX11_feed_15 : decode cX11_feed 15 = .ok (.getfield 9, 3) := by decide +kernel
theorem dX11_feed_18 : decode cX11_feed 18 = .ok (.iconst 2, 1) := by decide +kernel
theorem dX11_feed_19 : decode cX11_feed 19 = .ok (.iload_n 3, 1) := by decide +kernel
theorem dX11_feed_20 : decode cX11_feed 20 = .ok (.iastore, 1) := by decide +kernel
theorem dX11_feed_21 : decode cX11_feed 21 = .ok (.aload_n 0, 1) := by decide +kernel
theorem dX11_feed_22 : decode cX11_feed 22 = .ok (.getfield 9, 3) := by decide +kernel
theorem dX11_feed_25 : decode cX11_feed 25 = .ok (.iconst 3, 1) := by decide +kernel
theorem dX11_feed_26 : decode cX11_feed 26 = .ok (.iload 4, 2) := by decide +kernel
theorem dX11_feed_28 : decode cX11_feed 28 = .ok (.iastore, 1) := by decide +kernel
theorem dX11_feed_29 : decode cX11_feed 29 = .ok (.aload_n 0, 1) := by decide +kernel
theorem dX11_feed_30 : decode cX11_feed 30 = .ok (.getfield 9, 3) := by decide +kernel
theorem dX11_feed_33 : decode cX11_feed 33 = .ok (.iconst 4, 1) := by decide +kernel
theorem dX11_feed_34 : decode cX11_feed 34 = .ok (.iload 5, 2) := by decide +kernel
theorem dX11_feed_36 : decode cX11_feed 36 = .ok (.iastore, 1) := by decide +kernel
theorem dX11_feed_37 : decode cX11_feed 37 = .ok (.return_, 1) := by decide +kernel
theorem iX11_feed_in11 : ∀ w ∈ wsX110, w ∈ wsX11_feed := fun _ h => List.mem_cons_of_mem _ (List.mem_append_right _ h)
set_option maxHeartbeats 4000000 in
set_option maxRecDepth 100000 in
/-- feed(a, b, c, d, e): the five are ready -/
theorem c_X11_feed (l : Launch) (dC : Nat → ClassId) (dI : Nat → Nat → Nat) (h0 : Nat) (a0 a1 a2 a3 : Nat) (sl : Int32) (f5 f6 f7 f8 f9 f10 : Value) (kR : ClassId) (rd : Nat → Int32) (p1 p2 p3 p4 p5 : Int32) (sz : Nat) : Met l yX11_feed wsX11_feed ({ frames := 0, cells := 0, slots := 0, locals := 0 }) (va_Pc [.ref h0, .int p1, .int p2, .int p3, .int p4, .int p5] (fun U => U.heap.size = sz ∧ va_P (dC, dI) vwCl [(h0, .inr (11, [.ref a0, .ref a1, .ref a2, .ref a3, .int sl, f5, f6, f7, f8, f9, f10])), (a0, .inl (kR, 5, .inl rd))] U.heap ∧ va_K (dC, dI) vwCl [(kR, .int)] U ∧ va_D (fun _ => True) [(h0, .inr (11, [.ref a0, .ref a1, .ref a2, .ref a3, .int sl, f5, f6, f7, f8, f9, f10])), (a0, .inl (kR, 5, .inl rd))])) (va_Qv (fun _ : Unit => True) (fun u t => va_P (dC, dI) vwCl [(h0, .inr (11, [.ref a0, .ref a1, .ref a2, .ref a3, .int sl, f5, f6, f7, f8, f9, f10])), (a0, .inl (kR, 5, .inl (upd (upd (upd (upd (upd rd 0 p1) 1 p2) 2 p3) 3 p4) 4 p5)))] t.heap ∧ va_K (dC, dI) vwCl [(kR, .int)] t ∧ va_D (va_A [(h0, .inr (11, [.ref a0, .ref a1, .ref a2, .ref a3, .int sl, f5, f6, f7, f8, f9, f10])), (a0, .inl (kR, 5, .inl rd))] sz) [(h0, .inr (11, [.ref a0, .ref a1, .ref a2, .ref a3, .int sl, f5, f6, f7, f8, f9, f10])), (a0, .inl (kR, 5, .inl (upd (upd (upd (upd (upd rd 0 p1) 1 p2) 2 p3) 3 p4) 4 p5)))]) (va_A [(h0, .inr (11, [.ref a0, .ref a1, .ref a2, .ref a3, .int sl, f5, f6, f7, f8, f9, f10])), (a0, .inl (kR, 5, .inl rd))] sz)) 0 0 (va_A [(h0, .inr (11, [.ref a0, .ref a1, .ref a2, .ref a3, .int sl, f5, f6, f7, f8, f9, f10])), (a0, .inl (kR, 5, .inl rd))] sz) := by
  refine Met.ofW (cc := cX11_feed) (maxL := 6) (ret := none) (by decide) rfl ?_
  intro p e s m args below meth c s₁ B hml hv
  obtain ⟨rfl, hsz, hP, hK, hD0⟩ := hv
  have hx := B.exec
  have hb := B.bytes
  have hr := B.returns
  have hts := atoms_spec (ws := wsX11_feed) B.pre
  have hown : s.vm.findClass RX11 = some m.cls := findClass_of_methodNamed B.named
  have hlocks := B.notSynchronized
  subst hsz
  have hD := hD0.self (sz := s.heap.size)
  generalize hAe : va_A [(h0, .inr (11, [.ref a0, .ref a1, .ref a2, .ref a3, .int sl, f5, f6, f7, f8, f9, f10])), (a0, .inl (kR, 5, .inl rd))] s.heap.size = A at hD ⊢
  have hA : ∀ q : Nat, s.heap.size ≤ q → A q := fun q h => by rw [← hAe]; exact Or.inr h
  have hS : va_S A s.heap s.heap [] := va_S.rf
  have hP : va_P (dC, dI) vwCl [(h0, .inr (11, [.ref a0, .ref a1, .ref a2, .ref a3, .int sl, f5, f6, f7, f8, f9, f10])), (a0, .inl (kR, 5, .inl rd))] s.heap := hP
  have hl := lv_entry ([.ref h0, .int p1, .int p2, .int p3, .int p4, .int p5]) (n := 6) (Nat.le_of_ble_eq_true rfl)
  rw [lg_entry_eq]
  generalize (lg_sl ([.ref h0, .int p1, .int p2, .int p3, .int p4, .int p5]) ++ List.replicate (6 - (lg_sl ([.ref h0, .int p1, .int p2, .int p3, .int p4, .int p5])).length) Slot.unset).toArray = ls at hl ⊢
  have hl : lv_has ls 6 [(0, .ref h0), (1, .int p1), (2, .int p2), (3, .int p3), (4, .int p4), (5, .int p5)] := hl
  refine lv_aload_n hx hb dX11_feed_0 rfl (lv_at hl 0 rfl) ?_
  refine va_get (D := (dC, dI)) (ci := 11) (v := .ref a0) (C := RX11) (T := TX11) (N := 11) hx hb hts iX11_feed_in11 hown hK hP 0 rfl rfl 0 (by decide) (hts (.fieldLink RX11 9 "OptimaWorks" "ready" "[I") (by decide +kernel)) (fun _ h9 => h9) rfl dX11_feed_1 ?_
  refine lv_iconst (v := 0) hx hb dX11_feed_4 (by decide) ?_
  refine lv_iload_n hx hb dX11_feed_5 rfl (lv_at hl 1 rfl) ?_
  refine va_iast hx hb hK hP hD hS 1 0 rfl rfl (show ¬ ((0 : Int32) < 0 ∨ 5 ≤ (0 : Int32).toNatClampNeg) by decide) dX11_feed_6 (fun H locs hP hD hS => ?_)
  have hP : va_P (dC, dI) vwCl [(h0, .inr (11, [.ref a0, .ref a1, .ref a2, .ref a3, .int sl, f5, f6, f7, f8, f9, f10])), (a0, .inl (kR, 5, .inl (upd rd 0 p1)))] H := hP
  have hD : va_D A [(h0, .inr (11, [.ref a0, .ref a1, .ref a2, .ref a3, .int sl, f5, f6, f7, f8, f9, f10])), (a0, .inl (kR, 5, .inl (upd rd 0 p1)))] := hD
  refine lv_aload_n hx hb dX11_feed_7 rfl (lv_at hl 0 rfl) ?_
  refine va_get (D := (dC, dI)) (ci := 11) (v := .ref a0) (C := RX11) (T := TX11) (N := 11) hx hb hts iX11_feed_in11 hown hK hP 0 rfl rfl 0 (by decide) (hts (.fieldLink RX11 9 "OptimaWorks" "ready" "[I") (by decide +kernel)) (fun _ h9 => h9) rfl dX11_feed_8 ?_
  refine lv_iconst (v := 1) hx hb dX11_feed_11 (by decide) ?_
  refine lv_iload_n hx hb dX11_feed_12 rfl (lv_at hl 2 rfl) ?_
  refine va_iast hx hb hK hP hD hS 1 0 rfl rfl (show ¬ ((1 : Int32) < 0 ∨ 5 ≤ (1 : Int32).toNatClampNeg) by decide) dX11_feed_13 (fun H locs hP hD hS => ?_)
  have hP : va_P (dC, dI) vwCl [(h0, .inr (11, [.ref a0, .ref a1, .ref a2, .ref a3, .int sl, f5, f6, f7, f8, f9, f10])), (a0, .inl (kR, 5, .inl (upd (upd rd 0 p1) 1 p2)))] H := hP
  have hD : va_D A [(h0, .inr (11, [.ref a0, .ref a1, .ref a2, .ref a3, .int sl, f5, f6, f7, f8, f9, f10])), (a0, .inl (kR, 5, .inl (upd (upd rd 0 p1) 1 p2)))] := hD
  refine lv_aload_n hx hb dX11_feed_14 rfl (lv_at hl 0 rfl) ?_
  refine va_get (D := (dC, dI)) (ci := 11) (v := .ref a0) (C := RX11) (T := TX11) (N := 11) hx hb hts iX11_feed_in11 hown hK hP 0 rfl rfl 0 (by decide) (hts (.fieldLink RX11 9 "OptimaWorks" "ready" "[I") (by decide +kernel)) (fun _ h9 => h9) rfl dX11_feed_15 ?_
  refine lv_iconst (v := 2) hx hb dX11_feed_18 (by decide) ?_
  refine lv_iload_n hx hb dX11_feed_19 rfl (lv_at hl 3 rfl) ?_
  refine va_iast hx hb hK hP hD hS 1 0 rfl rfl (show ¬ ((2 : Int32) < 0 ∨ 5 ≤ (2 : Int32).toNatClampNeg) by decide) dX11_feed_20 (fun H locs hP hD hS => ?_)
  have hP : va_P (dC, dI) vwCl [(h0, .inr (11, [.ref a0, .ref a1, .ref a2, .ref a3, .int sl, f5, f6, f7, f8, f9, f10])), (a0, .inl (kR, 5, .inl (upd (upd (upd rd 0 p1) 1 p2) 2 p3)))] H := hP
  have hD : va_D A [(h0, .inr (11, [.ref a0, .ref a1, .ref a2, .ref a3, .int sl, f5, f6, f7, f8, f9, f10])), (a0, .inl (kR, 5, .inl (upd (upd (upd rd 0 p1) 1 p2) 2 p3)))] := hD
  refine lv_aload_n hx hb dX11_feed_21 rfl (lv_at hl 0 rfl) ?_
  refine va_get (D := (dC, dI)) (ci := 11) (v := .ref a0) (C := RX11) (T := TX11) (N := 11) hx hb hts iX11_feed_in11 hown hK hP 0 rfl rfl 0 (by decide) (hts (.fieldLink RX11 9 "OptimaWorks" "ready" "[I") (by decide +kernel)) (fun _ h9 => h9) rfl dX11_feed_22 ?_
  refine lv_iconst (v := 3) hx hb dX11_feed_25 (by decide) ?_
  refine lv_iload hx hb dX11_feed_26 (lv_at hl 4 rfl) ?_
  refine va_iast hx hb hK hP hD hS 1 0 rfl rfl (show ¬ ((3 : Int32) < 0 ∨ 5 ≤ (3 : Int32).toNatClampNeg) by decide) dX11_feed_28 (fun H locs hP hD hS => ?_)
  have hP : va_P (dC, dI) vwCl [(h0, .inr (11, [.ref a0, .ref a1, .ref a2, .ref a3, .int sl, f5, f6, f7, f8, f9, f10])), (a0, .inl (kR, 5, .inl (upd (upd (upd (upd rd 0 p1) 1 p2) 2 p3) 3 p4)))] H := hP
  have hD : va_D A [(h0, .inr (11, [.ref a0, .ref a1, .ref a2, .ref a3, .int sl, f5, f6, f7, f8, f9, f10])), (a0, .inl (kR, 5, .inl (upd (upd (upd (upd rd 0 p1) 1 p2) 2 p3) 3 p4)))] := hD
  refine lv_aload_n hx hb dX11_feed_29 rfl (lv_at hl 0 rfl) ?_
  refine va_get (D := (dC, dI)) (ci := 11) (v := .ref a0) (C := RX11) (T := TX11) (N := 11) hx hb hts iX11_feed_in11 hown hK hP 0 rfl rfl 0 (by decide) (hts (.fieldLink RX11 9 "OptimaWorks" "ready" "[I") (by decide +kernel)) (fun _ h9 => h9) rfl dX11_feed_30 ?_
  refine lv_iconst (v := 4) hx hb dX11_feed_33 (by decide) ?_
  refine lv_iload hx hb dX11_feed_34 (lv_at hl 5 rfl) ?_
  refine va_iast hx hb hK hP hD hS 1 0 rfl rfl (show ¬ ((4 : Int32) < 0 ∨ 5 ≤ (4 : Int32).toNatClampNeg) by decide) dX11_feed_36 (fun H locs hP hD hS => ?_)
  have hP : va_P (dC, dI) vwCl [(h0, .inr (11, [.ref a0, .ref a1, .ref a2, .ref a3, .int sl, f5, f6, f7, f8, f9, f10])), (a0, .inl (kR, 5, .inl (upd (upd (upd (upd (upd rd 0 p1) 1 p2) 2 p3) 3 p4) 4 p5)))] H := hP
  have hD : va_D A [(h0, .inr (11, [.ref a0, .ref a1, .ref a2, .ref a3, .int sl, f5, f6, f7, f8, f9, f10])), (a0, .inl (kR, 5, .inl (upd (upd (upd (upd (upd rd 0 p1) 1 p2) 2 p3) 3 p4) 4 p5)))] := hD
  refine W.widen (k := 0) (n := 0) (by decide +kernel) (by decide +kernel) ?_
  exact W.vret hx hb hr (fun t ht hW => ⟨⟨(), rfl, trivial, by rw [ht]; exact hP, va_K.moved hW.alike hK, hD⟩, hS.F ht⟩) hS.2.2 dX11_feed_37
end
section
/-- the words of a throw that are no good ones: they stay all the same -/
def isCD : Cond → Bool
  | .castable _ _ => true
  | .declares _ => true
  | _ => false
theorem cd_warm {w : Cond} (hc : isCD w = true) {s U : State} (hW : s.WarmedH U.vm) (h : va_Nw w s) : va_Nw w U := by
  cases w <;> first | exact va_Nw.warmC hW h | exact va_Nw.warmD hW h | (simp [isCD] at hc)
end
section
def wsX11_needModel : List Cond := .code yX11_needModel cX11_needModel 1 none :: ([.classLink RX11 159 "java/lang/IllegalStateException", .initialized "java/lang/IllegalStateException", .fieldLink RX11 23 "OptimaWorks" "model" "LOptimaWorks$Model;", .fieldLink RX11 80 "OptimaWorks$Model" "stands" "Z"] ++ wsX110 ++ wsX10 ++ (vx_at0 RX11 161 "java/lang/IllegalStateException" ["java/lang/RuntimeException", "java/lang/Exception"]).filter goodWord)
theorem dX11_needModel_0 : decode cX11_needModel 0 = .ok (.aload_n 0, 1) := by decide +kernel
theorem dX11_needModel_1 : decode cX11_needModel 1 = .ok (.getfield 23, 3) := by decide +kernel
theorem dX11_needModel_4 : decode cX11_needModel 4 = .ok (.getfield 80, 3) := by decide +kernel
theorem dX11_needModel_7 : decode cX11_needModel 7 = .ok (.ifCond .ne 11, 3) := by decide +kernel
theorem dX11_needModel_10 : decode cX11_needModel 10 = .ok (.new 159, 3) := by decide +kernel
theorem dX11_needModel_13 : decode cX11_needModel 13 = .ok (.dup, 1) := by decide +kernel
theorem dX11_needModel_14 : decode cX11_needModel 14 = .ok (.invokespecial 161, 3) := by decide +kernel
theorem dX11_needModel_17 : decode cX11_needModel 17 = .ok (.athrow, 1) := by decide +kernel
theorem dX11_needModel_18 : decode cX11_needModel 18 = .ok (.return_, 1) := by decide +kernel
def ngX11_161 : List Cond := (vx_at0 RX11 161 "java/lang/IllegalStateException" ["java/lang/RuntimeException", "java/lang/Exception"]).filter (fun w => !goodWord w)
theorem ngX11_161_ot : ∀ w ∈ ngX11_161, w.onTables = true := by decide +kernel
theorem ngX11_161_cd : ∀ w ∈ ngX11_161, isCD w = true := by decide +kernel
theorem iX11_needModel_in1 : ∀ w ∈ wsX10, w ∈ wsX11_needModel := fun _ h => List.mem_cons_of_mem _ (List.mem_append_left _ (List.mem_append_right _ h))
theorem iX11_needModel_in11 : ∀ w ∈ wsX110, w ∈ wsX11_needModel := fun _ h => List.mem_cons_of_mem _ (List.mem_append_left _ (List.mem_append_left _ (List.mem_append_right _ h)))
set_option maxHeartbeats 4000000 in
set_option maxRecDepth 100000 in
/-- needModel(): thrown without a model -/
theorem x_X11_needModel (l : Launch) (hst : l.stackTraces = false) (dC : Nat → ClassId) (dI : Nat → Nat → Nat) (h0 : Nat) (a0 a1 a2 a3 : Nat) (sl : Int32) (f5 f6 f7 f8 f9 f10 : Value) (st nv nr ng nd nc : Int32) (g6 g7 g8 g9 : Value) (pr : Int32) (g11 g12 g13 g14 g15 g16 : Value) (sz : Nat) : vx_Met l yX11_needModel wsX11_needModel ({ frames := 6, cells := 1, slots := 6, locals := 81 }) (va_Pc [.ref h0] (fun U => U.heap.size = sz ∧ va_P (dC, dI) vwCl [(h0, .inr (11, [.ref a0, .ref a1, .ref a2, .ref a3, .int sl, f5, f6, f7, f8, f9, f10])), (a2, .inr (1, [.int st, .int nv, .int nr, .int ng, .int nd, .int nc, g6, g7, g8, g9, .int pr, g11, g12, g13, g14, g15, g16]))] U.heap ∧ va_K (dC, dI) vwCl [] U ∧ va_D (fun _ => True) [(h0, .inr (11, [.ref a0, .ref a1, .ref a2, .ref a3, .int sl, f5, f6, f7, f8, f9, f10])), (a2, .inr (1, [.int st, .int nv, .int nr, .int ng, .int nd, .int nc, g6, g7, g8, g9, .int pr, g11, g12, g13, g14, g15, g16]))] ∧ vx_Zq Bundle.tN "UNASSIGNED_STACK" Bundle.steD (va_A [(h0, .inr (11, [.ref a0, .ref a1, .ref a2, .ref a3, .int sl, f5, f6, f7, f8, f9, f10])), (a2, .inr (1, [.int st, .int nv, .int nr, .int ng, .int nd, .int nc, g6, g7, g8, g9, .int pr, g11, g12, g13, g14, g15, g16]))] sz) U U.heap ∧ vx_Zq Bundle.tN "SUPPRESSED_SENTINEL" Bundle.listD (va_A [(h0, .inr (11, [.ref a0, .ref a1, .ref a2, .ref a3, .int sl, f5, f6, f7, f8, f9, f10])), (a2, .inr (1, [.int st, .int nv, .int nr, .int ng, .int nd, .int nc, g6, g7, g8, g9, .int pr, g11, g12, g13, g14, g15, g16]))] sz) U U.heap ∧ (∀ w ∈ ngX11_161, va_Nw w U))) (va_Qv (fun _ : Unit => ¬ st = 0) (fun _ t => va_P (dC, dI) vwCl [(h0, .inr (11, [.ref a0, .ref a1, .ref a2, .ref a3, .int sl, f5, f6, f7, f8, f9, f10])), (a2, .inr (1, [.int st, .int nv, .int nr, .int ng, .int nd, .int nc, g6, g7, g8, g9, .int pr, g11, g12, g13, g14, g15, g16]))] t.heap ∧ va_K (dC, dI) vwCl [] t ∧ va_D (va_A [(h0, .inr (11, [.ref a0, .ref a1, .ref a2, .ref a3, .int sl, f5, f6, f7, f8, f9, f10])), (a2, .inr (1, [.int st, .int nv, .int nr, .int ng, .int nd, .int nc, g6, g7, g8, g9, .int pr, g11, g12, g13, g14, g15, g16]))] sz) [(h0, .inr (11, [.ref a0, .ref a1, .ref a2, .ref a3, .int sl, f5, f6, f7, f8, f9, f10])), (a2, .inr (1, [.int st, .int nv, .int nr, .int ng, .int nd, .int nc, g6, g7, g8, g9, .int pr, g11, g12, g13, g14, g15, g16]))]) (va_A [(h0, .inr (11, [.ref a0, .ref a1, .ref a2, .ref a3, .int sl, f5, f6, f7, f8, f9, f10])), (a2, .inr (1, [.int st, .int nv, .int nr, .int ng, .int nd, .int nc, g6, g7, g8, g9, .int pr, g11, g12, g13, g14, g15, g16]))] sz)) (vx_X (fun n : String => (n = "java/lang/IllegalStateException" ∧ (st = 0))) (fun E n t => E = n ∧ va_P (dC, dI) vwCl [(h0, .inr (11, [.ref a0, .ref a1, .ref a2, .ref a3, .int sl, f5, f6, f7, f8, f9, f10])), (a2, .inr (1, [.int st, .int nv, .int nr, .int ng, .int nd, .int nc, g6, g7, g8, g9, .int pr, g11, g12, g13, g14, g15, g16]))] t.heap ∧ va_K (dC, dI) vwCl [] t ∧ va_D (va_A [(h0, .inr (11, [.ref a0, .ref a1, .ref a2, .ref a3, .int sl, f5, f6, f7, f8, f9, f10])), (a2, .inr (1, [.int st, .int nv, .int nr, .int ng, .int nd, .int nc, g6, g7, g8, g9, .int pr, g11, g12, g13, g14, g15, g16]))] sz) [(h0, .inr (11, [.ref a0, .ref a1, .ref a2, .ref a3, .int sl, f5, f6, f7, f8, f9, f10])), (a2, .inr (1, [.int st, .int nv, .int nr, .int ng, .int nd, .int nc, g6, g7, g8, g9, .int pr, g11, g12, g13, g14, g15, g16]))]) (va_A [(h0, .inr (11, [.ref a0, .ref a1, .ref a2, .ref a3, .int sl, f5, f6, f7, f8, f9, f10])), (a2, .inr (1, [.int st, .int nv, .int nr, .int ng, .int nd, .int nc, g6, g7, g8, g9, .int pr, g11, g12, g13, g14, g15, g16]))] sz)) 1 6 (va_A [(h0, .inr (11, [.ref a0, .ref a1, .ref a2, .ref a3, .int sl, f5, f6, f7, f8, f9, f10])), (a2, .inr (1, [.int st, .int nv, .int nr, .int ng, .int nd, .int nc, g6, g7, g8, g9, .int pr, g11, g12, g13, g14, g15, g16]))] sz) := by
  refine vx_ofW (cc := cX11_needModel) (maxL := 1) (ret := none) (by decide) rfl ?_
  intro p e s m args below meth c s₁ B hml htab hv
  obtain ⟨rfl, hsz, hP, hK, hD0, hU, hN, hngX11_161⟩ := hv
  have hx := B.exec
  have hb := B.bytes
  have hr := B.returns
  have hts := atoms_spec (ws := wsX11_needModel) B.pre
  have hown : s.vm.findClass RX11 = some m.cls := findClass_of_methodNamed B.named
  have hlocks := B.notSynchronized
  subst hsz
  have hD := hD0.self (sz := s.heap.size)
  generalize hAe : va_A [(h0, .inr (11, [.ref a0, .ref a1, .ref a2, .ref a3, .int sl, f5, f6, f7, f8, f9, f10])), (a2, .inr (1, [.int st, .int nv, .int nr, .int ng, .int nd, .int nc, g6, g7, g8, g9, .int pr, g11, g12, g13, g14, g15, g16]))] s.heap.size = A at hD hU hN ⊢
  have hA : ∀ q : Nat, s.heap.size ≤ q → A q := fun q h => by rw [← hAe]; exact Or.inr h
  have hS : va_S A s.heap s.heap [] := va_S.rf
  have hP : va_P (dC, dI) vwCl [(h0, .inr (11, [.ref a0, .ref a1, .ref a2, .ref a3, .int sl, f5, f6, f7, f8, f9, f10])), (a2, .inr (1, [.int st, .int nv, .int nr, .int ng, .int nd, .int nc, g6, g7, g8, g9, .int pr, g11, g12, g13, g14, g15, g16]))] s.heap := hP
  have hl := lv_entry ([.ref h0]) (n := 1) (Nat.le_of_ble_eq_true rfl)
  rw [lg_entry_eq]
  generalize (lg_sl ([.ref h0]) ++ List.replicate (1 - (lg_sl ([.ref h0])).length) Slot.unset).toArray = ls at hl ⊢
  have hl : lv_has ls 1 [(0, .ref h0)] := hl
  refine lv_aload_n hx hb dX11_needModel_0 rfl (lv_at hl 0 rfl) ?_
  refine va_get (D := (dC, dI)) (ci := 11) (v := .ref a2) (C := RX11) (T := TX11) (N := 11) hx hb hts iX11_needModel_in11 hown hK hP 0 rfl rfl 2 (by decide) (hts (.fieldLink RX11 23 "OptimaWorks" "model" "LOptimaWorks$Model;") (by decide +kernel)) (fun _ h9 => h9) rfl dX11_needModel_1 ?_
  refine va_get (D := (dC, dI)) (ci := 1) (v := .int st) (C := RX1) (T := TX1) (N := 17) hx hb hts iX11_needModel_in1 hown hK hP 1 rfl rfl 0 (by decide) (hts (.fieldLink RX11 80 "OptimaWorks$Model" "stands" "Z") (by decide +kernel)) (fun _ h9 => h9) rfl dX11_needModel_4 ?_
  refine lv_if_ne (tgt := 18) hx hb dX11_needModel_7 (by decide) (fun c_7 => ?_) (fun c_7 => ?_)
  · refine vx_ret ?_
    refine W.widen (k := 1) (n := 6) (by decide +kernel) (by decide +kernel) ?_
    exact W.vret hx hb hr (fun t ht hW => ⟨⟨(), rfl, by simp [c_7], by rw [ht]; exact hP, va_K.moved hW.alike hK, hD⟩, hS.F ht⟩) hS.2.2 dX11_needModel_18
  · exact vx_throw0 (own := RX11) (cls := "java/lang/IllegalStateException") (names := ["java/lang/RuntimeException", "java/lang/Exception"]) (ik := 159) (ic := 161) (A := A) hx hb hst hown (by decide +kernel) (by decide +kernel) (hts (.classLink RX11 159 "java/lang/IllegalStateException") (by decide +kernel)) (hts (.initialized "java/lang/IllegalStateException") (by decide +kernel)) (vx_hat (B := ngX11_161) (fun w h => hts w (List.mem_cons_of_mem _ (List.mem_append_right _ h))) (fun _ h => h) (fun w h => va_Nw.use (ngX11_161_ot w h) (hngX11_161 w h))) (by decide +kernel) hU hN hS (by rw [hml]; exact hl.1) dX11_needModel_10 dX11_needModel_13 dX11_needModel_14 dX11_needModel_17 (fun x hx9 => (htab x hx9).elim) (by decide +kernel) (Nat.le_of_ble_eq_true rfl) (by decide +kernel) (by decide +kernel) hlocks (fun t hvm hz hk => ⟨"java/lang/IllegalStateException", ⟨rfl, by simp [c_7]⟩, ⟨rfl, hP.kept (fun k q h => hk q.1 ((hP k q h).lt)), va_K.moved hvm hK, hD⟩, ⟨Nat.le_trans hS.1 hz, fun q h1 h2 => (hk q (Nat.lt_of_lt_of_le h1 hS.1)).trans (hS.2.1 q h1 h2)⟩⟩) hS.2.2 (by decide +kernel) (by decide +kernel)
end
section
theorem in_lt {x y : Int32} {n : Nat} (h0 : ¬ x < 0) (h1 : x < y) (hy : y.toInt ≤ (n : Int)) : vp_in x n := by
  rw [vp_in_iff]
  rw [Int32.lt_iff_toInt_lt] at h0 h1
  have h2 : (0 : Int32).toInt = 0 := by decide
  rw [h2] at h0
  omega
end
section
def wsX11_variable : List Cond := .code yX11_variable cX11_variable 3 (some .int) :: ([.classLink RX11 93 "java/lang/IndexOutOfBoundsException", .initialized "java/lang/IndexOutOfBoundsException", .fieldLink RX11 23 "OptimaWorks" "model" "LOptimaWorks$Model;", .fieldLink RX11 84 "OptimaWorks$Model" "variables" "I", .fieldLink RX11 96 "OptimaWorks$Model" "from" "[I", .fieldLink RX11 99 "OptimaWorks$Model" "to" "[I", .fieldLink RX11 102 "OptimaWorks$Model" "whole" "[Z"] ++ wsX110 ++ wsX10 ++ (vx_at0 RX11 95 "java/lang/IndexOutOfBoundsException" ["java/lang/RuntimeException", "java/lang/Exception"]).filter goodWord)
theorem dX11_variable_0 : decode cX11_variable 0 = .ok (.iload_n 1, 1) := by decide +kernel
theorem dX11_variable_1 : decode cX11_variable 1 = .ok (.ifCond .lt 14, 3) := by decide +kernel
theorem dX11_variable_4 : decode cX11_variable 4 = .ok (.iload_n 1, 1) := by decide +kernel
theorem dX11_variable_5 : decode cX11_variable 5 = .ok (.aload_n 0, 1) := by decide +kernel
theorem dX11_variable_6 : decode cX11_variable 6 = .ok (.getfield 23, 3) := by decide +kernel
theorem dX11_variable_9 : decode cX11_variable 9 = .ok (.getfield 84, 3) := by decide +kernel
theorem dX11_variable_12 : decode cX11_variable 12 = .ok (.if_icmp .lt 11, 3) := by decide +kernel
theorem dX11_variable_15 : decode cX11_variable 15 = .ok (.new 93, 3) := by decide +kernel
theorem dX11_variable_18 : decode cX11_variable 18 = .ok (.dup, 1) := by decide +kernel
theorem dX11_variable_19 : decode cX11_variable 19 = .ok (.invokespecial 95, 3) := by decide +kernel
theorem dX11_variable_22 : decode cX11_variable 22 = .ok (.athrow, 1) := by decide +kernel
theorem dX11_variable_23 : decode cX11_variable 23 = .ok (.iload_n 2, 1) := by decide +kernel
theorem dX11_variable_24 : decode cX11_variable 24 = .ok (.tableswitch 66 0 2 #[28, 38, 48], 28) := by decide +kernel
theorem dX11_variable_52 : decode cX11_variable 52 = .ok (.aload_n 0, 1) := by decide +kernel
theorem dX11_variable_53 : decode cX11_variable 53 = .ok (.getfield 23, 3) := by decide +kernel
theorem dX11_variable_56 : decode cX11_variable 56 = .ok (.getfield 96, 3) := by decide +kernel
theorem dX11_variable_59 : decode cX11_variable 59 = .ok (.iload_n 1, 1) := by decide +kernel
theorem dX11_variable_60 : decode cX11_variable 60 = .ok (.iaload, 1) := by decide +kernel
theorem dX11_variable_61 : decode cX11_variable 61 = .ok (.ireturn, 1) := by decide +kernel
theorem dX11_variable_62 : decode cX11_variable 62 = .ok (.aload_n 0, 1) := by decide +kernel
theorem dX11_variable_63 : decode cX11_variable 63 = .ok (.getfield 23, 3) := by decide +kernel
theorem dX11_variable_66 : decode cX11_variable 66 = .ok (.getfield 99, 3) := by decide +kernel
theorem dX11_variable_69 : decode cX11_variable 69 = .ok (.iload_n 1, 1) := by decide +kernel
theorem dX11_variable_70 : decode cX11_variable 70 = .ok (.iaload, 1) := by decide +kernel
theorem dX11_variable_71 : decode cX11_variable 71 = .ok (.ireturn, 1) := by decide +kernel
theorem dX11_variable_72 : decode cX11_variable 72 = .ok (.aload_n 0, 1) := by decide +kernel
theorem dX11_variable_73 : decode cX11_variable 73 = .ok (.getfield 23, 3) := by decide +kernel
theorem dX11_variable_76 : decode cX11_variable 76 = .ok (.getfield 102, 3) := by decide +kernel
theorem dX11_variable_79 : decode cX11_variable 79 = .ok (.iload_n 1, 1) := by decide +kernel
theorem dX11_variable_80 : decode cX11_variable 80 = .ok (.baload, 1) := by decide +kernel
theorem dX11_variable_81 : decode cX11_variable 81 = .ok (.ifCond .eq 7, 3) := by decide +kernel
theorem dX11_variable_84 : decode cX11_variable 84 = .ok (.iconst 1, 1) := by decide +kernel
theorem dX11_variable_85 : decode cX11_variable 85 = .ok (.goto 4, 3) := by decide +kernel
theorem dX11_variable_88 : decode cX11_variable 88 = .ok (.iconst 0, 1) := by decide +kernel
theorem dX11_variable_89 : decode cX11_variable 89 = .ok (.ireturn, 1) := by decide +kernel
theorem dX11_variable_90 : decode cX11_variable 90 = .ok (.iconst (-1), 1) := by decide +kernel
theorem dX11_variable_91 : decode cX11_variable 91 = .ok (.ireturn, 1) := by decide +kernel
def ngX11_95 : List Cond := (vx_at0 RX11 95 "java/lang/IndexOutOfBoundsException" ["java/lang/RuntimeException", "java/lang/Exception"]).filter (fun w => !goodWord w)
theorem ngX11_95_ot : ∀ w ∈ ngX11_95, w.onTables = true := by decide +kernel
theorem ngX11_95_cd : ∀ w ∈ ngX11_95, isCD w = true := by decide +kernel
theorem iX11_variable_in1 : ∀ w ∈ wsX10, w ∈ wsX11_variable := fun _ h => List.mem_cons_of_mem _ (List.mem_append_left _ (List.mem_append_right _ h))
theorem iX11_variable_in11 : ∀ w ∈ wsX110, w ∈ wsX11_variable := fun _ h => List.mem_cons_of_mem _ (List.mem_append_left _ (List.mem_append_left _ (List.mem_append_right _ h)))
set_option maxHeartbeats 4000000 in
set_option maxRecDepth 100000 in
/-- variable(k, what) -/
theorem x_X11_variable (l : Launch) (hst : l.stackTraces = false) (dC : Nat → ClassId) (dI : Nat → Nat → Nat) (h0 : Nat) (a0 a1 a2 a3 : Nat) (sl : Int32) (f5 f6 f7 f8 f9 f10 : Value) (st nv nr ng nd nc : Int32) (m6 m7 m8 : Nat) (g9 : Value) (pr : Int32) (g11 g12 g13 g14 g15 g16 : Value) (k6 k7 k8 : ClassId) (fr to wh : Nat → Int32) (hnv : nv.toInt ≤ ((8 : Nat) : Int)) (k what : Int32) (sz : Nat) : vx_Met l yX11_variable wsX11_variable ({ frames := 6, cells := 1, slots := 6, locals := 81 }) (va_Pc [.ref h0, .int k, .int what] (fun U => U.heap.size = sz ∧ va_P (dC, dI) vwCl [(h0, .inr (11, [.ref a0, .ref a1, .ref a2, .ref a3, .int sl, f5, f6, f7, f8, f9, f10])), (a2, .inr (1, [.int st, .int nv, .int nr, .int ng, .int nd, .int nc, .ref m6, .ref m7, .ref m8, g9, .int pr, g11, g12, g13, g14, g15, g16])), (m6, .inl (k6, 8, .inl fr)), (m7, .inl (k7, 8, .inl to)), (m8, .inl (k8, 8, .inl wh))] U.heap ∧ va_K (dC, dI) vwCl [(k6, .int), (k7, .int), (k8, .boolean)] U ∧ va_D (fun _ => True) [(h0, .inr (11, [.ref a0, .ref a1, .ref a2, .ref a3, .int sl, f5, f6, f7, f8, f9, f10])), (a2, .inr (1, [.int st, .int nv, .int nr, .int ng, .int nd, .int nc, .ref m6, .ref m7, .ref m8, g9, .int pr, g11, g12, g13, g14, g15, g16])), (m6, .inl (k6, 8, .inl fr)), (m7, .inl (k7, 8, .inl to)), (m8, .inl (k8, 8, .inl wh))] ∧ vx_Zq Bundle.tN "UNASSIGNED_STACK" Bundle.steD (va_A [(h0, .inr (11, [.ref a0, .ref a1, .ref a2, .ref a3, .int sl, f5, f6, f7, f8, f9, f10])), (a2, .inr (1, [.int st, .int nv, .int nr, .int ng, .int nd, .int nc, .ref m6, .ref m7, .ref m8, g9, .int pr, g11, g12, g13, g14, g15, g16])), (m6, .inl (k6, 8, .inl fr)), (m7, .inl (k7, 8, .inl to)), (m8, .inl (k8, 8, .inl wh))] sz) U U.heap ∧ vx_Zq Bundle.tN "SUPPRESSED_SENTINEL" Bundle.listD (va_A [(h0, .inr (11, [.ref a0, .ref a1, .ref a2, .ref a3, .int sl, f5, f6, f7, f8, f9, f10])), (a2, .inr (1, [.int st, .int nv, .int nr, .int ng, .int nd, .int nc, .ref m6, .ref m7, .ref m8, g9, .int pr, g11, g12, g13, g14, g15, g16])), (m6, .inl (k6, 8, .inl fr)), (m7, .inl (k7, 8, .inl to)), (m8, .inl (k8, 8, .inl wh))] sz) U U.heap ∧ (∀ w ∈ ngX11_95, va_Nw w U))) (va_Qi (fun (r : Int32) (_ : Unit) => (¬ k < 0 ∧ k < nv) ∧ r = (if what = 0 then fr k.toNatClampNeg else if what = 1 then to k.toNatClampNeg else if what = 2 then (if wh k.toNatClampNeg = 0 then 0 else 1) else -1)) (fun _ t => va_P (dC, dI) vwCl [(h0, .inr (11, [.ref a0, .ref a1, .ref a2, .ref a3, .int sl, f5, f6, f7, f8, f9, f10])), (a2, .inr (1, [.int st, .int nv, .int nr, .int ng, .int nd, .int nc, .ref m6, .ref m7, .ref m8, g9, .int pr, g11, g12, g13, g14, g15, g16])), (m6, .inl (k6, 8, .inl fr)), (m7, .inl (k7, 8, .inl to)), (m8, .inl (k8, 8, .inl wh))] t.heap ∧ va_K (dC, dI) vwCl [(k6, .int), (k7, .int), (k8, .boolean)] t ∧ va_D (va_A [(h0, .inr (11, [.ref a0, .ref a1, .ref a2, .ref a3, .int sl, f5, f6, f7, f8, f9, f10])), (a2, .inr (1, [.int st, .int nv, .int nr, .int ng, .int nd, .int nc, .ref m6, .ref m7, .ref m8, g9, .int pr, g11, g12, g13, g14, g15, g16])), (m6, .inl (k6, 8, .inl fr)), (m7, .inl (k7, 8, .inl to)), (m8, .inl (k8, 8, .inl wh))] sz) [(h0, .inr (11, [.ref a0, .ref a1, .ref a2, .ref a3, .int sl, f5, f6, f7, f8, f9, f10])), (a2, .inr (1, [.int st, .int nv, .int nr, .int ng, .int nd, .int nc, .ref m6, .ref m7, .ref m8, g9, .int pr, g11, g12, g13, g14, g15, g16])), (m6, .inl (k6, 8, .inl fr)), (m7, .inl (k7, 8, .inl to)), (m8, .inl (k8, 8, .inl wh))]) (va_A [(h0, .inr (11, [.ref a0, .ref a1, .ref a2, .ref a3, .int sl, f5, f6, f7, f8, f9, f10])), (a2, .inr (1, [.int st, .int nv, .int nr, .int ng, .int nd, .int nc, .ref m6, .ref m7, .ref m8, g9, .int pr, g11, g12, g13, g14, g15, g16])), (m6, .inl (k6, 8, .inl fr)), (m7, .inl (k7, 8, .inl to)), (m8, .inl (k8, 8, .inl wh))] sz)) (vx_X (fun n : String => (n = "java/lang/IndexOutOfBoundsException" ∧ (k < 0 ∨ ¬ k < nv))) (fun E n t => E = n ∧ va_P (dC, dI) vwCl [(h0, .inr (11, [.ref a0, .ref a1, .ref a2, .ref a3, .int sl, f5, f6, f7, f8, f9, f10])), (a2, .inr (1, [.int st, .int nv, .int nr, .int ng, .int nd, .int nc, .ref m6, .ref m7, .ref m8, g9, .int pr, g11, g12, g13, g14, g15, g16])), (m6, .inl (k6, 8, .inl fr)), (m7, .inl (k7, 8, .inl to)), (m8, .inl (k8, 8, .inl wh))] t.heap ∧ va_K (dC, dI) vwCl [(k6, .int), (k7, .int), (k8, .boolean)] t ∧ va_D (va_A [(h0, .inr (11, [.ref a0, .ref a1, .ref a2, .ref a3, .int sl, f5, f6, f7, f8, f9, f10])), (a2, .inr (1, [.int st, .int nv, .int nr, .int ng, .int nd, .int nc, .ref m6, .ref m7, .ref m8, g9, .int pr, g11, g12, g13, g14, g15, g16])), (m6, .inl (k6, 8, .inl fr)), (m7, .inl (k7, 8, .inl to)), (m8, .inl (k8, 8, .inl wh))] sz) [(h0, .inr (11, [.ref a0, .ref a1, .ref a2, .ref a3, .int sl, f5, f6, f7, f8, f9, f10])), (a2, .inr (1, [.int st, .int nv, .int nr, .int ng, .int nd, .int nc, .ref m6, .ref m7, .ref m8, g9, .int pr, g11, g12, g13, g14, g15, g16])), (m6, .inl (k6, 8, .inl fr)), (m7, .inl (k7, 8, .inl to)), (m8, .inl (k8, 8, .inl wh))]) (va_A [(h0, .inr (11, [.ref a0, .ref a1, .ref a2, .ref a3, .int sl, f5, f6, f7, f8, f9, f10])), (a2, .inr (1, [.int st, .int nv, .int nr, .int ng, .int nd, .int nc, .ref m6, .ref m7, .ref m8, g9, .int pr, g11, g12, g13, g14, g15, g16])), (m6, .inl (k6, 8, .inl fr)), (m7, .inl (k7, 8, .inl to)), (m8, .inl (k8, 8, .inl wh))] sz)) 1 6 (va_A [(h0, .inr (11, [.ref a0, .ref a1, .ref a2, .ref a3, .int sl, f5, f6, f7, f8, f9, f10])), (a2, .inr (1, [.int st, .int nv, .int nr, .int ng, .int nd, .int nc, .ref m6, .ref m7, .ref m8, g9, .int pr, g11, g12, g13, g14, g15, g16])), (m6, .inl (k6, 8, .inl fr)), (m7, .inl (k7, 8, .inl to)), (m8, .inl (k8, 8, .inl wh))] sz) := by
  refine vx_ofW (cc := cX11_variable) (maxL := 3) (ret := (some .int)) (by decide) rfl ?_
  intro p e s m args below meth c s₁ B hml htab hv
  obtain ⟨rfl, hsz, hP, hK, hD0, hU, hN, hngX11_95⟩ := hv
  have hx := B.exec
  have hb := B.bytes
  have hr := B.returns
  have hts := atoms_spec (ws := wsX11_variable) B.pre
  have hown : s.vm.findClass RX11 = some m.cls := findClass_of_methodNamed B.named
  have hlocks := B.notSynchronized
  subst hsz
  have hD := hD0.self (sz := s.heap.size)
  generalize hAe : va_A [(h0, .inr (11, [.ref a0, .ref a1, .ref a2, .ref a3, .int sl, f5, f6, f7, f8, f9, f10])), (a2, .inr (1, [.int st, .int nv, .int nr, .int ng, .int nd, .int nc, .ref m6, .ref m7, .ref m8, g9, .int pr, g11, g12, g13, g14, g15, g16])), (m6, .inl (k6, 8, .inl fr)), (m7, .inl (k7, 8, .inl to)), (m8, .inl (k8, 8, .inl wh))] s.heap.size = A at hD hU hN ⊢
  have hA : ∀ q : Nat, s.heap.size ≤ q → A q := fun q h => by rw [← hAe]; exact Or.inr h
  have hS : va_S A s.heap s.heap [] := va_S.rf
  have hP : va_P (dC, dI) vwCl [(h0, .inr (11, [.ref a0, .ref a1, .ref a2, .ref a3, .int sl, f5, f6, f7, f8, f9, f10])), (a2, .inr (1, [.int st, .int nv, .int nr, .int ng, .int nd, .int nc, .ref m6, .ref m7, .ref m8, g9, .int pr, g11, g12, g13, g14, g15, g16])), (m6, .inl (k6, 8, .inl fr)), (m7, .inl (k7, 8, .inl to)), (m8, .inl (k8, 8, .inl wh))] s.heap := hP
  have hl := lv_entry ([.ref h0, .int k, .int what]) (n := 3) (Nat.le_of_ble_eq_true rfl)
  rw [lg_entry_eq]
  generalize (lg_sl ([.ref h0, .int k, .int what]) ++ List.replicate (3 - (lg_sl ([.ref h0, .int k, .int what])).length) Slot.unset).toArray = ls at hl ⊢
  have hl : lv_has ls 3 [(0, .ref h0), (1, .int k), (2, .int what)] := hl
  refine lv_iload_n hx hb dX11_variable_0 rfl (lv_at hl 1 rfl) ?_
  refine lv_if_lt (tgt := 15) hx hb dX11_variable_1 (by decide) (fun c_1 => ?_) (fun c_1 => ?_)
  · exact vx_throw0 (own := RX11) (cls := "java/lang/IndexOutOfBoundsException") (names := ["java/lang/RuntimeException", "java/lang/Exception"]) (ik := 93) (ic := 95) (A := A) hx hb hst hown (by decide +kernel) (by decide +kernel) (hts (.classLink RX11 93 "java/lang/IndexOutOfBoundsException") (by decide +kernel)) (hts (.initialized "java/lang/IndexOutOfBoundsException") (by decide +kernel)) (vx_hat (B := ngX11_95) (fun w h => hts w (List.mem_cons_of_mem _ (List.mem_append_right _ h))) (fun _ h => h) (fun w h => va_Nw.use (ngX11_95_ot w h) (hngX11_95 w h))) (by decide +kernel) hU hN hS (by rw [hml]; exact hl.1) dX11_variable_15 dX11_variable_18 dX11_variable_19 dX11_variable_22 (fun x hx9 => (htab x hx9).elim) (by decide +kernel) (Nat.le_of_ble_eq_true rfl) (by decide +kernel) (by decide +kernel) hlocks (fun t hvm hz hk => ⟨"java/lang/IndexOutOfBoundsException", ⟨rfl, by simp [c_1]⟩, ⟨rfl, hP.kept (fun k q h => hk q.1 ((hP k q h).lt)), va_K.moved hvm hK, hD⟩, ⟨Nat.le_trans hS.1 hz, fun q h1 h2 => (hk q (Nat.lt_of_lt_of_le h1 hS.1)).trans (hS.2.1 q h1 h2)⟩⟩) hS.2.2 (by decide +kernel) (by decide +kernel)
  · refine lv_iload_n hx hb dX11_variable_4 rfl (lv_at hl 1 rfl) ?_
    refine lv_aload_n hx hb dX11_variable_5 rfl (lv_at hl 0 rfl) ?_
    refine va_get (D := (dC, dI)) (ci := 11) (v := .ref a2) (C := RX11) (T := TX11) (N := 11) hx hb hts iX11_variable_in11 hown hK hP 0 rfl rfl 2 (by decide) (hts (.fieldLink RX11 23 "OptimaWorks" "model" "LOptimaWorks$Model;") (by decide +kernel)) (fun _ h9 => h9) rfl dX11_variable_6 ?_
    refine va_get (D := (dC, dI)) (ci := 1) (v := .int nv) (C := RX1) (T := TX1) (N := 17) hx hb hts iX11_variable_in1 hown hK hP 1 rfl rfl 1 (by decide) (hts (.fieldLink RX11 84 "OptimaWorks$Model" "variables" "I") (by decide +kernel)) (fun _ h9 => h9) rfl dX11_variable_9 ?_
    refine lv_icmp_lt (tgt := 23) hx hb dX11_variable_12 (by decide) (fun c_12 => ?_) (fun c_12 => ?_)
    · refine lv_iload_n hx hb dX11_variable_23 rfl (lv_at hl 2 rfl) ?_
      by_cases s_24_0 : what = 0
      · refine lv_tableIn (off := 28) (tgt := 52) hx hb dX11_variable_24 (by rw [s_24_0]; decide) (by rw [s_24_0]; decide) (by rw [s_24_0]; decide) (by decide) ?_
        refine lv_aload_n hx hb dX11_variable_52 rfl (lv_at hl 0 rfl) ?_
        refine va_get (D := (dC, dI)) (ci := 11) (v := .ref a2) (C := RX11) (T := TX11) (N := 11) hx hb hts iX11_variable_in11 hown hK hP 0 rfl rfl 2 (by decide) (hts (.fieldLink RX11 23 "OptimaWorks" "model" "LOptimaWorks$Model;") (by decide +kernel)) (fun _ h9 => h9) rfl dX11_variable_53 ?_
        refine va_get (D := (dC, dI)) (ci := 1) (v := .ref m6) (C := RX1) (T := TX1) (N := 17) hx hb hts iX11_variable_in1 hown hK hP 1 rfl rfl 6 (by decide) (hts (.fieldLink RX11 96 "OptimaWorks$Model" "from" "[I") (by decide +kernel)) (fun _ h9 => h9) rfl dX11_variable_56 ?_
        refine lv_iload_n hx hb dX11_variable_59 rfl (lv_at hl 1 rfl) ?_
        refine va_iald hx hb hK hP 2 0 rfl rfl (in_lt c_1 c_12 hnv) dX11_variable_60 ?_
        refine vx_ret ?_
        refine W.widen (k := 1) (n := 6) (by decide +kernel) (by decide +kernel) ?_
        exact W.iret (v := (fr (k).toNatClampNeg)) hx hb hr (fun t ht hW => ⟨⟨(fr (k).toNatClampNeg), (), rfl, by simp [c_1, c_12, s_24_0], by rw [ht]; exact hP, va_K.moved hW.alike hK, hD⟩, hS.F ht⟩) hS.2.2 dX11_variable_61
      · skip
        by_cases s_24_1 : what = 1
        · refine lv_tableIn (off := 38) (tgt := 62) hx hb dX11_variable_24 (by rw [s_24_1]; decide) (by rw [s_24_1]; decide) (by rw [s_24_1]; decide) (by decide) ?_
          refine lv_aload_n hx hb dX11_variable_62 rfl (lv_at hl 0 rfl) ?_
          refine va_get (D := (dC, dI)) (ci := 11) (v := .ref a2) (C := RX11) (T := TX11) (N := 11) hx hb hts iX11_variable_in11 hown hK hP 0 rfl rfl 2 (by decide) (hts (.fieldLink RX11 23 "OptimaWorks" "model" "LOptimaWorks$Model;") (by decide +kernel)) (fun _ h9 => h9) rfl dX11_variable_63 ?_
          refine va_get (D := (dC, dI)) (ci := 1) (v := .ref m7) (C := RX1) (T := TX1) (N := 17) hx hb hts iX11_variable_in1 hown hK hP 1 rfl rfl 7 (by decide) (hts (.fieldLink RX11 99 "OptimaWorks$Model" "to" "[I") (by decide +kernel)) (fun _ h9 => h9) rfl dX11_variable_66 ?_
          refine lv_iload_n hx hb dX11_variable_69 rfl (lv_at hl 1 rfl) ?_
          refine va_iald hx hb hK hP 3 1 rfl rfl (in_lt c_1 c_12 hnv) dX11_variable_70 ?_
          refine vx_ret ?_
          refine W.widen (k := 1) (n := 6) (by decide +kernel) (by decide +kernel) ?_
          exact W.iret (v := (to (k).toNatClampNeg)) hx hb hr (fun t ht hW => ⟨⟨(to (k).toNatClampNeg), (), rfl, by simp [c_1, c_12, s_24_0, s_24_1], by rw [ht]; exact hP, va_K.moved hW.alike hK, hD⟩, hS.F ht⟩) hS.2.2 dX11_variable_71
        · skip
          by_cases s_24_2 : what = 2
          · refine lv_tableIn (off := 48) (tgt := 72) hx hb dX11_variable_24 (by rw [s_24_2]; decide) (by rw [s_24_2]; decide) (by rw [s_24_2]; decide) (by decide) ?_
            refine lv_aload_n hx hb dX11_variable_72 rfl (lv_at hl 0 rfl) ?_
            refine va_get (D := (dC, dI)) (ci := 11) (v := .ref a2) (C := RX11) (T := TX11) (N := 11) hx hb hts iX11_variable_in11 hown hK hP 0 rfl rfl 2 (by decide) (hts (.fieldLink RX11 23 "OptimaWorks" "model" "LOptimaWorks$Model;") (by decide +kernel)) (fun _ h9 => h9) rfl dX11_variable_73 ?_
            refine va_get (D := (dC, dI)) (ci := 1) (v := .ref m8) (C := RX1) (T := TX1) (N := 17) hx hb hts iX11_variable_in1 hown hK hP 1 rfl rfl 8 (by decide) (hts (.fieldLink RX11 102 "OptimaWorks$Model" "whole" "[Z") (by decide +kernel)) (fun _ h9 => h9) rfl dX11_variable_76 ?_
            refine lv_iload_n hx hb dX11_variable_79 rfl (lv_at hl 1 rfl) ?_
            refine va_zald hx hb hK hP 4 2 rfl rfl (in_lt c_1 c_12 hnv) dX11_variable_80 ?_
            refine lv_if_eq (tgt := 88) hx hb dX11_variable_81 (by decide) (fun c_81 => ?_) (fun c_81 => ?_)
            · refine lv_iconst (v := 0) hx hb dX11_variable_88 (by decide) ?_
              refine vx_ret ?_
              refine W.widen (k := 1) (n := 6) (by decide +kernel) (by decide +kernel) ?_
              exact W.iret (v := 0) hx hb hr (fun t ht hW => ⟨⟨0, (), rfl, by simp [c_1, c_12, s_24_0, s_24_1, s_24_2, c_81], by rw [ht]; exact hP, va_K.moved hW.alike hK, hD⟩, hS.F ht⟩) hS.2.2 dX11_variable_89
            · refine lv_iconst (v := 1) hx hb dX11_variable_84 (by decide) ?_
              refine lv_goto (tgt := 89) hx hb dX11_variable_85 (by decide) ?_
              refine vx_ret ?_
              refine W.widen (k := 1) (n := 6) (by decide +kernel) (by decide +kernel) ?_
              exact W.iret (v := 1) hx hb hr (fun t ht hW => ⟨⟨1, (), rfl, by simp [c_1, c_12, s_24_0, s_24_1, s_24_2, c_81], by rw [ht]; exact hP, va_K.moved hW.alike hK, hD⟩, hS.F ht⟩) hS.2.2 dX11_variable_89
          · skip
            refine lv_tableOut (tgt := 90) hx hb dX11_variable_24 (by have := lv_neT s_24_0 (show Int32.toInt 0 = 0 by decide); have := lv_neT s_24_1 (show Int32.toInt 1 = 1 by decide); have := lv_neT s_24_2 (show Int32.toInt 2 = 2 by decide); omega) (by decide) ?_
            refine lv_iconst (v := (-1)) hx hb dX11_variable_90 (by decide) ?_
            refine vx_ret ?_
            refine W.widen (k := 1) (n := 6) (by decide +kernel) (by decide +kernel) ?_
            exact W.iret (v := (-1)) hx hb hr (fun t ht hW => ⟨⟨(-1), (), rfl, by simp [c_1, c_12, s_24_0, s_24_1, s_24_2], by rw [ht]; exact hP, va_K.moved hW.alike hK, hD⟩, hS.F ht⟩) hS.2.2 dX11_variable_91
    · exact vx_throw0 (own := RX11) (cls := "java/lang/IndexOutOfBoundsException") (names := ["java/lang/RuntimeException", "java/lang/Exception"]) (ik := 93) (ic := 95) (A := A) hx hb hst hown (by decide +kernel) (by decide +kernel) (hts (.classLink RX11 93 "java/lang/IndexOutOfBoundsException") (by decide +kernel)) (hts (.initialized "java/lang/IndexOutOfBoundsException") (by decide +kernel)) (vx_hat (B := ngX11_95) (fun w h => hts w (List.mem_cons_of_mem _ (List.mem_append_right _ h))) (fun _ h => h) (fun w h => va_Nw.use (ngX11_95_ot w h) (hngX11_95 w h))) (by decide +kernel) hU hN hS (by rw [hml]; exact hl.1) dX11_variable_15 dX11_variable_18 dX11_variable_19 dX11_variable_22 (fun x hx9 => (htab x hx9).elim) (by decide +kernel) (Nat.le_of_ble_eq_true rfl) (by decide +kernel) (by decide +kernel) hlocks (fun t hvm hz hk => ⟨"java/lang/IndexOutOfBoundsException", ⟨rfl, by simp [c_1, c_12]⟩, ⟨rfl, hP.kept (fun k q h => hk q.1 ((hP k q h).lt)), va_K.moved hvm hK, hD⟩, ⟨Nat.le_trans hS.1 hz, fun q h1 h2 => (hk q (Nat.lt_of_lt_of_le h1 hS.1)).trans (hS.2.1 q h1 h2)⟩⟩) hS.2.2 (by decide +kernel) (by decide +kernel)
end
section
def wsX12_variable : List Cond := .code yX12_variable cX12_variable 3 (some .int) :: ([.fieldLink RX12 774 "OptimaWorksModel" "variables" "I", .fieldLink RX12 348 "OptimaWorksModel" "thrown" "I", .fieldLink RX12 191 "OptimaWorksModel" "low" "[I", .fieldLink RX12 194 "OptimaWorksModel" "high" "[I", .fieldLink RX12 197 "OptimaWorksModel" "whole" "[I"] ++ wsX120)
theorem dX12_variable_0 : decode cX12_variable 0 = .ok (.aload_n 0, 1) := by decide +kernel
theorem dX12_variable_1 : decode cX12_variable 1 = .ok (.iload_n 1, 1) := by decide +kernel
theorem dX12_variable_2 : decode cX12_variable 2 = .ok (.ifCond .lt 15, 3) := by decide +kernel
theorem dX12_variable_5 : decode cX12_variable 5 = .ok (.iload_n 1, 1) := by decide +kernel
theorem dX12_variable_6 : decode cX12_variable 6 = .ok (.aload_n 0, 1) := by decide +kernel
theorem dX12_variable_7 : decode cX12_variable 7 = .ok (.getfield 774, 3) := by decide +kernel
theorem dX12_variable_10 : decode cX12_variable 10 = .ok (.if_icmp .ge 7, 3) := by decide +kernel
theorem dX12_variable_13 : decode cX12_variable 13 = .ok (.iconst 0, 1) := by decide +kernel
theorem dX12_variable_14 : decode cX12_variable 14 = .ok (.goto 4, 3) := by decide +kernel
theorem dX12_variable_17 : decode cX12_variable 17 = .ok (.iconst 1, 1) := by decide +kernel
theorem dX12_variable_18 : decode cX12_variable 18 = .ok (.putfield 348, 3) := by decide +kernel
theorem dX12_variable_21 : decode cX12_variable 21 = .ok (.aload_n 0, 1) := by decide +kernel
theorem dX12_variable_22 : decode cX12_variable 22 = .ok (.getfield 348, 3) := by decide +kernel
theorem dX12_variable_25 : decode cX12_variable 25 = .ok (.ifCond .le 5, 3) := by decide +kernel
theorem dX12_variable_28 : decode cX12_variable 28 = .ok (.iconst 0, 1) := by decide +kernel
theorem dX12_variable_29 : decode cX12_variable 29 = .ok (.ireturn, 1) := by decide +kernel
theorem dX12_variable_30 : decode cX12_variable 30 = .ok (.iload_n 2, 1) := by decide +kernel
theorem dX12_variable_31 : decode cX12_variable 31 = .ok (.ifCond .ne 12, 3) := by decide +kernel
theorem dX12_variable_34 : decode cX12_variable 34 = .ok (.aload_n 0, 1) := by decide +kernel
theorem dX12_variable_35 : decode cX12_variable 35 = .ok (.getfield 191, 3) := by decide +kernel
theorem dX12_variable_38 : decode cX12_variable 38 = .ok (.iload_n 1, 1) := by decide +kernel
theorem dX12_variable_39 : decode cX12_variable 39 = .ok (.iaload, 1) := by decide +kernel
theorem dX12_variable_40 : decode cX12_variable 40 = .ok (.goto 32, 3) := by decide +kernel
theorem dX12_variable_43 : decode cX12_variable 43 = .ok (.iload_n 2, 1) := by decide +kernel
theorem dX12_variable_44 : decode cX12_variable 44 = .ok (.iconst 1, 1) := by decide +kernel
theorem dX12_variable_45 : decode cX12_variable 45 = .ok (.if_icmp .ne 12, 3) := by decide +kernel
theorem dX12_variable_48 : decode cX12_variable 48 = .ok (.aload_n 0, 1) := by decide +kernel
theorem dX12_variable_49 : decode cX12_variable 49 = .ok (.getfield 194, 3) := by decide +kernel
theorem dX12_variable_52 : decode cX12_variable 52 = .ok (.iload_n 1, 1) := by decide +kernel
theorem dX12_variable_53 : decode cX12_variable 53 = .ok (.iaload, 1) := by decide +kernel
theorem dX12_variable_54 : decode cX12_variable 54 = .ok (.goto 18, 3) := by decide +kernel
theorem dX12_variable_57 : decode cX12_variable 57 = .ok (.iload_n 2, 1) := by decide +kernel
theorem dX12_variable_58 : decode cX12_variable 58 = .ok (.iconst 2, 1) := by decide +kernel
theorem dX12_variable_59 : decode cX12_variable 59 = .ok (.if_icmp .ne 12, 3) := by decide +kernel
theorem dX12_variable_62 : decode cX12_variable 62 = .ok (.aload_n 0, 1) := by decide +kernel
theorem dX12_variable_63 : decode cX12_variable 63 = .ok (.getfield 197, 3) := by decide +kernel
theorem dX12_variable_66 : decode cX12_variable 66 = .ok (.iload_n 1, 1) := by decide +kernel
theorem dX12_variable_67 : decode cX12_variable 67 = .ok (.iaload, 1) := by decide +kernel
theorem dX12_variable_68 : decode cX12_variable 68 = .ok (.goto 4, 3) := by decide +kernel
theorem dX12_variable_71 : decode cX12_variable 71 = .ok (.iconst (-1), 1) := by decide +kernel
theorem dX12_variable_72 : decode cX12_variable 72 = .ok (.ireturn, 1) := by decide +kernel
theorem iX12_variable_in12 : ∀ w ∈ wsX120, w ∈ wsX12_variable := fun _ h => List.mem_cons_of_mem _ (List.mem_append_right _ h)
set_option maxHeartbeats 4000000 in
set_option maxRecDepth 100000 in
/-- variable(k, what) -/
theorem c_X12_variable (l : Launch) (dC : Nat → ClassId) (dI : Nat → Nat → Nat) (h0 : Nat) (v : Nat → Value) (x_variables : Int32) (h_variables : v 90 = .int x_variables) (b_low : Nat) (h_low : v 96 = .ref b_low) (k_low : ClassId) (r_low : Nat → Int32) (b_high : Nat) (h_high : v 97 = .ref b_high) (k_high : ClassId) (r_high : Nat → Int32) (b_whole : Nat) (h_whole : v 98 = .ref b_whole) (k_whole : ClassId) (r_whole : Nat → Int32) (hvs : x_variables.toInt ≤ 9) (k : Int32) (what : Int32) (sz : Nat) : Met l yX12_variable wsX12_variable ({ frames := 0, cells := 0, slots := 0, locals := 0 }) (va_Pc [.ref h0, .int k, .int what] (fun U => U.heap.size = sz ∧ va_P (dC, dI) vwCl [(h0, .inr (12, fM v)), (b_low, .inl (k_low, 9, .inl r_low)), (b_high, .inl (k_high, 9, .inl r_high)), (b_whole, .inl (k_whole, 9, .inl r_whole))] U.heap ∧ va_K (dC, dI) vwCl [(k_low, .int), (k_high, .int), (k_whole, .int)] U ∧ va_D (fun _ => True) [(h0, .inr (12, fM v)), (b_low, .inl (k_low, 9, .inl r_low)), (b_high, .inl (k_high, 9, .inl r_high)), (b_whole, .inl (k_whole, 9, .inl r_whole))])) (va_Qi (fun (r : Int32) (w : (Nat → Value)) => r = (if k < 0 then 0 else if x_variables ≤ k then 0 else (if what = 0 then r_low k.toNatClampNeg else if what = 1 then r_high k.toNatClampNeg else if what = 2 then r_whole k.toNatClampNeg else -1)) ∧ w = mUp v 0 (.int (if k < 0 then 1 else if x_variables ≤ k then 1 else 0))) (fun w t => va_P (dC, dI) vwCl [(h0, .inr (12, fM w)), (b_low, .inl (k_low, 9, .inl r_low)), (b_high, .inl (k_high, 9, .inl r_high)), (b_whole, .inl (k_whole, 9, .inl r_whole))] t.heap ∧ va_K (dC, dI) vwCl [(k_low, .int), (k_high, .int), (k_whole, .int)] t ∧ va_D (va_A [(h0, .inr (12, fM v)), (b_low, .inl (k_low, 9, .inl r_low)), (b_high, .inl (k_high, 9, .inl r_high)), (b_whole, .inl (k_whole, 9, .inl r_whole))] sz) [(h0, .inr (12, fM w)), (b_low, .inl (k_low, 9, .inl r_low)), (b_high, .inl (k_high, 9, .inl r_high)), (b_whole, .inl (k_whole, 9, .inl r_whole))]) (va_A [(h0, .inr (12, fM v)), (b_low, .inl (k_low, 9, .inl r_low)), (b_high, .inl (k_high, 9, .inl r_high)), (b_whole, .inl (k_whole, 9, .inl r_whole))] sz)) 0 0 (va_A [(h0, .inr (12, fM v)), (b_low, .inl (k_low, 9, .inl r_low)), (b_high, .inl (k_high, 9, .inl r_high)), (b_whole, .inl (k_whole, 9, .inl r_whole))] sz) := by
  refine Met.ofW (cc := cX12_variable) (maxL := 3) (ret := (some .int)) (by decide) rfl ?_
  intro p e s m args below meth c s₁ B hml hv
  obtain ⟨rfl, hsz, hP, hK, hD0⟩ := hv
  have hx := B.exec
  have hb := B.bytes
  have hr := B.returns
  have hts := atoms_spec (ws := wsX12_variable) B.pre
  have hown : s.vm.findClass RX12 = some m.cls := findClass_of_methodNamed B.named
  have hlocks := B.notSynchronized
  subst hsz
  have hD := hD0.self (sz := s.heap.size)
  generalize hAe : va_A [(h0, .inr (12, fM v)), (b_low, .inl (k_low, 9, .inl r_low)), (b_high, .inl (k_high, 9, .inl r_high)), (b_whole, .inl (k_whole, 9, .inl r_whole))] s.heap.size = A at hD ⊢
  have hA : ∀ q : Nat, s.heap.size ≤ q → A q := fun q h => by rw [← hAe]; exact Or.inr h
  have hS : va_S A s.heap s.heap [] := va_S.rf
  have hP : va_P (dC, dI) vwCl [(h0, .inr (12, fM v)), (b_low, .inl (k_low, 9, .inl r_low)), (b_high, .inl (k_high, 9, .inl r_high)), (b_whole, .inl (k_whole, 9, .inl r_whole))] s.heap := hP
  have hl := lv_entry ([.ref h0, .int k, .int what]) (n := 3) (Nat.le_of_ble_eq_true rfl)
  rw [lg_entry_eq]
  generalize (lg_sl ([.ref h0, .int k, .int what]) ++ List.replicate (3 - (lg_sl ([.ref h0, .int k, .int what])).length) Slot.unset).toArray = ls at hl ⊢
  have hl : lv_has ls 3 [(0, .ref h0), (1, .int k), (2, .int what)] := hl
  refine lv_aload_n hx hb dX12_variable_0 rfl (lv_at hl 0 rfl) ?_
  refine lv_iload_n hx hb dX12_variable_1 rfl (lv_at hl 1 rfl) ?_
  refine lv_if_lt (tgt := 17) hx hb dX12_variable_2 (by decide) (fun c_2 => ?_) (fun c_2 => ?_)
  · refine lv_iconst (v := 1) hx hb dX12_variable_17 (by decide) ?_
    refine va_put (D := (dC, dI)) (ci := 12) (v := .int 1) (ty := .int) (C := RX12) (T := TX12) (N := 163) hx hb hts iX12_variable_in12 tyX12 tyX12_ok nmX12 hown hK hP hD hS 0 rfl rfl 0 (by decide) (hts (.fieldLink RX12 348 "OptimaWorksModel" "thrown" "I") (by decide +kernel)) (fun _ h9 => h9) rfl (by decide +kernel) rfl rfl (Nat.le_of_ble_eq_true rfl) dX12_variable_18 (fun H locs hP hD hS => ?_)
    have hP : va_P (dC, dI) vwCl [(h0, .inr (12, fM (mUp v 0 (.int 1)))), (b_low, .inl (k_low, 9, .inl r_low)), (b_high, .inl (k_high, 9, .inl r_high)), (b_whole, .inl (k_whole, 9, .inl r_whole))] H := hP
    have hD : va_D A [(h0, .inr (12, fM (mUp v 0 (.int 1)))), (b_low, .inl (k_low, 9, .inl r_low)), (b_high, .inl (k_high, 9, .inl r_high)), (b_whole, .inl (k_whole, 9, .inl r_whole))] := hD
    refine lv_aload_n hx hb dX12_variable_21 rfl (lv_at hl 0 rfl) ?_
    refine va_get (D := (dC, dI)) (ci := 12) (v := .int 1) (C := RX12) (T := TX12) (N := 163) hx hb hts iX12_variable_in12 hown hK hP 0 rfl rfl 0 (by decide) (hts (.fieldLink RX12 348 "OptimaWorksModel" "thrown" "I") (by decide +kernel)) (fun _ h9 => h9) rfl dX12_variable_22 ?_
    refine lv_if_le (tgt := 30) hx hb dX12_variable_25 (by decide) (fun c9 => absurd c9 (by decide)) (fun _ => ?_)
    refine lv_iconst (v := 0) hx hb dX12_variable_28 (by decide) ?_
    refine W.widen (k := 0) (n := 0) (by decide +kernel) (by decide +kernel) ?_
    exact W.iret (v := 0) hx hb hr (fun t ht hW => ⟨⟨0, (mUp v 0 (.int 1)), rfl, ⟨by simp [c_2], by simp [c_2]⟩, by rw [ht]; exact hP, va_K.moved hW.alike hK, hD⟩, hS.F ht⟩) hS.2.2 dX12_variable_29
  · refine lv_iload_n hx hb dX12_variable_5 rfl (lv_at hl 1 rfl) ?_
    refine lv_aload_n hx hb dX12_variable_6 rfl (lv_at hl 0 rfl) ?_
    refine va_get (D := (dC, dI)) (ci := 12) (v := .int x_variables) (C := RX12) (T := TX12) (N := 163) hx hb hts iX12_variable_in12 hown hK hP 0 rfl rfl 90 (by decide) (hts (.fieldLink RX12 774 "OptimaWorksModel" "variables" "I") (by decide +kernel)) (fun _ h9 => h9) (congrArg some h_variables) dX12_variable_7 ?_
    refine lv_icmp_ge (tgt := 17) hx hb dX12_variable_10 (by decide) (fun c_10 => ?_) (fun c_10 => ?_)
    · refine lv_iconst (v := 1) hx hb dX12_variable_17 (by decide) ?_
      refine va_put (D := (dC, dI)) (ci := 12) (v := .int 1) (ty := .int) (C := RX12) (T := TX12) (N := 163) hx hb hts iX12_variable_in12 tyX12 tyX12_ok nmX12 hown hK hP hD hS 0 rfl rfl 0 (by decide) (hts (.fieldLink RX12 348 "OptimaWorksModel" "thrown" "I") (by decide +kernel)) (fun _ h9 => h9) rfl (by decide +kernel) rfl rfl (Nat.le_of_ble_eq_true rfl) dX12_variable_18 (fun H locs hP hD hS => ?_)
      have hP : va_P (dC, dI) vwCl [(h0, .inr (12, fM (mUp v 0 (.int 1)))), (b_low, .inl (k_low, 9, .inl r_low)), (b_high, .inl (k_high, 9, .inl r_high)), (b_whole, .inl (k_whole, 9, .inl r_whole))] H := hP
      have hD : va_D A [(h0, .inr (12, fM (mUp v 0 (.int 1)))), (b_low, .inl (k_low, 9, .inl r_low)), (b_high, .inl (k_high, 9, .inl r_high)), (b_whole, .inl (k_whole, 9, .inl r_whole))] := hD
      refine lv_aload_n hx hb dX12_variable_21 rfl (lv_at hl 0 rfl) ?_
      refine va_get (D := (dC, dI)) (ci := 12) (v := .int 1) (C := RX12) (T := TX12) (N := 163) hx hb hts iX12_variable_in12 hown hK hP 0 rfl rfl 0 (by decide) (hts (.fieldLink RX12 348 "OptimaWorksModel" "thrown" "I") (by decide +kernel)) (fun _ h9 => h9) rfl dX12_variable_22 ?_
      refine lv_if_le (tgt := 30) hx hb dX12_variable_25 (by decide) (fun c9 => absurd c9 (by decide)) (fun _ => ?_)
      refine lv_iconst (v := 0) hx hb dX12_variable_28 (by decide) ?_
      refine W.widen (k := 0) (n := 0) (by decide +kernel) (by decide +kernel) ?_
      exact W.iret (v := 0) hx hb hr (fun t ht hW => ⟨⟨0, (mUp v 0 (.int 1)), rfl, ⟨by simp [c_2, c_10], by simp [c_2, c_10]⟩, by rw [ht]; exact hP, va_K.moved hW.alike hK, hD⟩, hS.F ht⟩) hS.2.2 dX12_variable_29
    · refine lv_iconst (v := 0) hx hb dX12_variable_13 (by decide) ?_
      refine lv_goto (tgt := 18) hx hb dX12_variable_14 (by decide) ?_
      refine va_put (D := (dC, dI)) (ci := 12) (v := .int 0) (ty := .int) (C := RX12) (T := TX12) (N := 163) hx hb hts iX12_variable_in12 tyX12 tyX12_ok nmX12 hown hK hP hD hS 0 rfl rfl 0 (by decide) (hts (.fieldLink RX12 348 "OptimaWorksModel" "thrown" "I") (by decide +kernel)) (fun _ h9 => h9) rfl (by decide +kernel) rfl rfl (Nat.le_of_ble_eq_true rfl) dX12_variable_18 (fun H locs hP hD hS => ?_)
      have hP : va_P (dC, dI) vwCl [(h0, .inr (12, fM (mUp v 0 (.int 0)))), (b_low, .inl (k_low, 9, .inl r_low)), (b_high, .inl (k_high, 9, .inl r_high)), (b_whole, .inl (k_whole, 9, .inl r_whole))] H := hP
      have hD : va_D A [(h0, .inr (12, fM (mUp v 0 (.int 0)))), (b_low, .inl (k_low, 9, .inl r_low)), (b_high, .inl (k_high, 9, .inl r_high)), (b_whole, .inl (k_whole, 9, .inl r_whole))] := hD
      refine lv_aload_n hx hb dX12_variable_21 rfl (lv_at hl 0 rfl) ?_
      refine va_get (D := (dC, dI)) (ci := 12) (v := .int 0) (C := RX12) (T := TX12) (N := 163) hx hb hts iX12_variable_in12 hown hK hP 0 rfl rfl 0 (by decide) (hts (.fieldLink RX12 348 "OptimaWorksModel" "thrown" "I") (by decide +kernel)) (fun _ h9 => h9) rfl dX12_variable_22 ?_
      refine lv_if_le (tgt := 30) hx hb dX12_variable_25 (by decide) (fun _ => ?_) (fun c9 => absurd (by decide) c9)
      refine lv_iload_n hx hb dX12_variable_30 rfl (lv_at hl 2 rfl) ?_
      refine lv_if_ne (tgt := 43) hx hb dX12_variable_31 (by decide) (fun c_31 => ?_) (fun c_31 => ?_)
      · refine lv_iload_n hx hb dX12_variable_43 rfl (lv_at hl 2 rfl) ?_
        refine lv_iconst (v := 1) hx hb dX12_variable_44 (by decide) ?_
        refine lv_icmp_ne (tgt := 57) hx hb dX12_variable_45 (by decide) (fun c_45 => ?_) (fun c_45 => ?_)
        · refine lv_iload_n hx hb dX12_variable_57 rfl (lv_at hl 2 rfl) ?_
          refine lv_iconst (v := 2) hx hb dX12_variable_58 (by decide) ?_
          refine lv_icmp_ne (tgt := 71) hx hb dX12_variable_59 (by decide) (fun c_59 => ?_) (fun c_59 => ?_)
          · refine lv_iconst (v := (-1)) hx hb dX12_variable_71 (by decide) ?_
            refine W.widen (k := 0) (n := 0) (by decide +kernel) (by decide +kernel) ?_
            exact W.iret (v := (-1)) hx hb hr (fun t ht hW => ⟨⟨(-1), (mUp v 0 (.int 0)), rfl, ⟨by simp [c_2, c_10, c_31, c_45, c_59], by simp [c_2, c_10, c_31, c_45, c_59]⟩, by rw [ht]; exact hP, va_K.moved hW.alike hK, hD⟩, hS.F ht⟩) hS.2.2 dX12_variable_72
          · refine lv_aload_n hx hb dX12_variable_62 rfl (lv_at hl 0 rfl) ?_
            refine va_get (D := (dC, dI)) (ci := 12) (v := .ref b_whole) (C := RX12) (T := TX12) (N := 163) hx hb hts iX12_variable_in12 hown hK hP 0 rfl rfl 98 (by decide) (hts (.fieldLink RX12 197 "OptimaWorksModel" "whole" "[I") (by decide +kernel)) (fun _ h9 => h9) (congrArg some h_whole) dX12_variable_63 ?_
            refine lv_iload_n hx hb dX12_variable_66 rfl (lv_at hl 1 rfl) ?_
            refine va_iald hx hb hK hP 3 2 rfl rfl (vp_in_iff.mpr (by have t_c_2 : ¬ (k : Int32).toInt < (0 : Int32).toInt := fun h => c_2 ((Int32.lt_iff_toInt_lt).mpr h); have t_c_10 : ¬ (x_variables : Int32).toInt ≤ (k : Int32).toInt := fun h => c_10 ((Int32.le_iff_toInt_le).mpr h); have z2 : (0 : Int32).toInt = 0 := (by decide); have e_0 := hvs; omega)) dX12_variable_67 ?_
            refine lv_goto (tgt := 72) hx hb dX12_variable_68 (by decide) ?_
            refine W.widen (k := 0) (n := 0) (by decide +kernel) (by decide +kernel) ?_
            exact W.iret (v := (r_whole (k).toNatClampNeg)) hx hb hr (fun t ht hW => ⟨⟨(r_whole (k).toNatClampNeg), (mUp v 0 (.int 0)), rfl, ⟨by simp [c_2, c_10, c_31, c_45, c_59], by simp [c_2, c_10, c_31, c_45, c_59]⟩, by rw [ht]; exact hP, va_K.moved hW.alike hK, hD⟩, hS.F ht⟩) hS.2.2 dX12_variable_72
        · refine lv_aload_n hx hb dX12_variable_48 rfl (lv_at hl 0 rfl) ?_
          refine va_get (D := (dC, dI)) (ci := 12) (v := .ref b_high) (C := RX12) (T := TX12) (N := 163) hx hb hts iX12_variable_in12 hown hK hP 0 rfl rfl 97 (by decide) (hts (.fieldLink RX12 194 "OptimaWorksModel" "high" "[I") (by decide +kernel)) (fun _ h9 => h9) (congrArg some h_high) dX12_variable_49 ?_
          refine lv_iload_n hx hb dX12_variable_52 rfl (lv_at hl 1 rfl) ?_
          refine va_iald hx hb hK hP 2 1 rfl rfl (vp_in_iff.mpr (by have t_c_2 : ¬ (k : Int32).toInt < (0 : Int32).toInt := fun h => c_2 ((Int32.lt_iff_toInt_lt).mpr h); have t_c_10 : ¬ (x_variables : Int32).toInt ≤ (k : Int32).toInt := fun h => c_10 ((Int32.le_iff_toInt_le).mpr h); have z2 : (0 : Int32).toInt = 0 := (by decide); have e_0 := hvs; omega)) dX12_variable_53 ?_
          refine lv_goto (tgt := 72) hx hb dX12_variable_54 (by decide) ?_
          refine W.widen (k := 0) (n := 0) (by decide +kernel) (by decide +kernel) ?_
          exact W.iret (v := (r_high (k).toNatClampNeg)) hx hb hr (fun t ht hW => ⟨⟨(r_high (k).toNatClampNeg), (mUp v 0 (.int 0)), rfl, ⟨by simp [c_2, c_10, c_31, c_45], by simp [c_2, c_10, c_31, c_45]⟩, by rw [ht]; exact hP, va_K.moved hW.alike hK, hD⟩, hS.F ht⟩) hS.2.2 dX12_variable_72
      · refine lv_aload_n hx hb dX12_variable_34 rfl (lv_at hl 0 rfl) ?_
        refine va_get (D := (dC, dI)) (ci := 12) (v := .ref b_low) (C := RX12) (T := TX12) (N := 163) hx hb hts iX12_variable_in12 hown hK hP 0 rfl rfl 96 (by decide) (hts (.fieldLink RX12 191 "OptimaWorksModel" "low" "[I") (by decide +kernel)) (fun _ h9 => h9) (congrArg some h_low) dX12_variable_35 ?_
        refine lv_iload_n hx hb dX12_variable_38 rfl (lv_at hl 1 rfl) ?_
        refine va_iald hx hb hK hP 1 0 rfl rfl (vp_in_iff.mpr (by have t_c_2 : ¬ (k : Int32).toInt < (0 : Int32).toInt := fun h => c_2 ((Int32.lt_iff_toInt_lt).mpr h); have t_c_10 : ¬ (x_variables : Int32).toInt ≤ (k : Int32).toInt := fun h => c_10 ((Int32.le_iff_toInt_le).mpr h); have z2 : (0 : Int32).toInt = 0 := (by decide); have e_0 := hvs; omega)) dX12_variable_39 ?_
        refine lv_goto (tgt := 72) hx hb dX12_variable_40 (by decide) ?_
        refine W.widen (k := 0) (n := 0) (by decide +kernel) (by decide +kernel) ?_
        exact W.iret (v := (r_low (k).toNatClampNeg)) hx hb hr (fun t ht hW => ⟨⟨(r_low (k).toNatClampNeg), (mUp v 0 (.int 0)), rfl, ⟨by simp [c_2, c_10, c_31], by simp [c_2, c_10, c_31]⟩, by rw [ht]; exact hP, va_K.moved hW.alike hK, hD⟩, hS.F ht⟩) hS.2.2 dX12_variable_72
def wsX12_letter : List Cond := .code yX12_letter cX12_letter 2 (some .int) :: ([.fieldLink RX12 348 "OptimaWorksModel" "thrown" "I", .fieldLink RX12 933 "OptimaWorksModel" "printed" "I", .fieldLink RX12 248 "OptimaWorksModel" "out" "[B"] ++ wsX120)
theorem dX12_letter_0 : decode cX12_letter 0 = .ok (.aload_n 0, 1) := by decide +kernel
theorem dX12_letter_1 : decode cX12_letter 1 = .ok (.iconst 0, 1) := by decide +kernel
theorem dX12_letter_2 : decode cX12_letter 2 = .ok (.putfield 348, 3) := by decide +kernel
theorem dX12_letter_5 : decode cX12_letter 5 = .ok (.iload_n 1, 1) := by decide +kernel
theorem dX12_letter_6 : decode cX12_letter 6 = .ok (.ifCond .lt 11, 3) := by decide +kernel
theorem dX12_letter_9 : decode cX12_letter 9 = .ok (.iload_n 1, 1) := by decide +kernel
theorem dX12_letter_10 : decode cX12_letter 10 = .ok (.aload_n 0, 1) := by decide +kernel
theorem dX12_letter_11 : decode cX12_letter 11 = .ok (.getfield 933, 3) := by decide +kernel
theorem dX12_letter_14 : decode cX12_letter 14 = .ok (.if_icmp .lt 7, 3) := by decide +kernel
theorem dX12_letter_17 : decode cX12_letter 17 = .ok (.iconst (-1), 1) := by decide +kernel
theorem dX12_letter_18 : decode cX12_letter 18 = .ok (.goto 13, 3) := by decide +kernel
theorem dX12_letter_21 : decode cX12_letter 21 = .ok (.aload_n 0, 1) := by decide +kernel
theorem dX12_letter_22 : decode cX12_letter 22 = .ok (.getfield 248, 3) := by decide +kernel
theorem dX12_letter_25 : decode cX12_letter 25 = .ok (.iload_n 1, 1) := by decide +kernel
theorem dX12_letter_26 : decode cX12_letter 26 = .ok (.baload, 1) := by decide +kernel
theorem dX12_letter_27 : decode cX12_letter 27 = .ok (.sipush 255, 3) := by decide +kernel
theorem dX12_letter_30 : decode cX12_letter 30 = .ok (.iand, 1) := by decide +kernel
theorem dX12_letter_31 : decode cX12_letter 31 = .ok (.ireturn, 1) := by decide +kernel
theorem iX12_letter_in12 : ∀ w ∈ wsX120, w ∈ wsX12_letter := fun _ h => List.mem_cons_of_mem _ (List.mem_append_right _ h)
set_option maxHeartbeats 4000000 in
set_option maxRecDepth 100000 in
/-- letter(i) -/
theorem c_X12_letter (l : Launch) (dC : Nat → ClassId) (dI : Nat → Nat → Nat) (h0 : Nat) (v : Nat → Value) (x_printed : Int32) (h_printed : v 125 = .int x_printed) (b_out : Nat) (h_out : v 124 = .ref b_out) (k_out : ClassId) (r_out : Nat → Int32) (hps : x_printed.toInt ≤ 30000) (i : Int32) (sz : Nat) : Met l yX12_letter wsX12_letter ({ frames := 0, cells := 0, slots := 0, locals := 0 }) (va_Pc [.ref h0, .int i] (fun U => U.heap.size = sz ∧ va_P (dC, dI) vwCl [(h0, .inr (12, fM v)), (b_out, .inl (k_out, 30000, .inl r_out))] U.heap ∧ va_K (dC, dI) vwCl [(k_out, .byte)] U ∧ va_D (fun _ => True) [(h0, .inr (12, fM v)), (b_out, .inl (k_out, 30000, .inl r_out))])) (va_Qi (fun (r : Int32) (w : (Nat → Value)) => r = (if i < 0 then -1 else if i < x_printed then r_out i.toNatClampNeg &&& 255 else -1) ∧ w = mUp v 0 (.int 0)) (fun w t => va_P (dC, dI) vwCl [(h0, .inr (12, fM w)), (b_out, .inl (k_out, 30000, .inl r_out))] t.heap ∧ va_K (dC, dI) vwCl [(k_out, .byte)] t ∧ va_D (va_A [(h0, .inr (12, fM v)), (b_out, .inl (k_out, 30000, .inl r_out))] sz) [(h0, .inr (12, fM w)), (b_out, .inl (k_out, 30000, .inl r_out))]) (va_A [(h0, .inr (12, fM v)), (b_out, .inl (k_out, 30000, .inl r_out))] sz)) 0 0 (va_A [(h0, .inr (12, fM v)), (b_out, .inl (k_out, 30000, .inl r_out))] sz) := by
  refine Met.ofW (cc := cX12_letter) (maxL := 2) (ret := (some .int)) (by decide) rfl ?_
  intro p e s m args below meth c s₁ B hml hv
  obtain ⟨rfl, hsz, hP, hK, hD0⟩ := hv
  have hx := B.exec
  have hb := B.bytes
  have hr := B.returns
  have hts := atoms_spec (ws := wsX12_letter) B.pre
  have hown : s.vm.findClass RX12 = some m.cls := findClass_of_methodNamed B.named
  have hlocks := B.notSynchronized
  subst hsz
  have hD := hD0.self (sz := s.heap.size)
  generalize hAe : va_A [(h0, .inr (12, fM v)), (b_out, .inl (k_out, 30000, .inl r_out))] s.heap.size = A at hD ⊢
  have hA : ∀ q : Nat, s.heap.size ≤ q → A q := fun q h => by rw [← hAe]; exact Or.inr h
  have hS : va_S A s.heap s.heap [] := va_S.rf
  have hP : va_P (dC, dI) vwCl [(h0, .inr (12, fM v)), (b_out, .inl (k_out, 30000, .inl r_out))] s.heap := hP
  have hl := lv_entry ([.ref h0, .int i]) (n := 2) (Nat.le_of_ble_eq_true rfl)
  rw [lg_entry_eq]
  generalize (lg_sl ([.ref h0, .int i]) ++ List.replicate (2 - (lg_sl ([.ref h0, .int i])).length) Slot.unset).toArray = ls at hl ⊢
  have hl : lv_has ls 2 [(0, .ref h0), (1, .int i)] := hl
  refine lv_aload_n hx hb dX12_letter_0 rfl (lv_at hl 0 rfl) ?_
  refine lv_iconst (v := 0) hx hb dX12_letter_1 (by decide) ?_
  refine va_put (D := (dC, dI)) (ci := 12) (v := .int 0) (ty := .int) (C := RX12) (T := TX12) (N := 163) hx hb hts iX12_letter_in12 tyX12 tyX12_ok nmX12 hown hK hP hD hS 0 rfl rfl 0 (by decide) (hts (.fieldLink RX12 348 "OptimaWorksModel" "thrown" "I") (by decide +kernel)) (fun _ h9 => h9) rfl (by decide +kernel) rfl rfl (Nat.le_of_ble_eq_true rfl) dX12_letter_2 (fun H locs hP hD hS => ?_)
  have hP : va_P (dC, dI) vwCl [(h0, .inr (12, fM (mUp v 0 (.int 0)))), (b_out, .inl (k_out, 30000, .inl r_out))] H := hP
  have hD : va_D A [(h0, .inr (12, fM (mUp v 0 (.int 0)))), (b_out, .inl (k_out, 30000, .inl r_out))] := hD
  refine lv_iload_n hx hb dX12_letter_5 rfl (lv_at hl 1 rfl) ?_
  refine lv_if_lt (tgt := 17) hx hb dX12_letter_6 (by decide) (fun c_6 => ?_) (fun c_6 => ?_)
  · refine lv_iconst (v := (-1)) hx hb dX12_letter_17 (by decide) ?_
    refine lv_goto (tgt := 31) hx hb dX12_letter_18 (by decide) ?_
    refine W.widen (k := 0) (n := 0) (by decide +kernel) (by decide +kernel) ?_
    exact W.iret (v := (-1)) hx hb hr (fun t ht hW => ⟨⟨(-1), (mUp v 0 (.int 0)), rfl, ⟨by simp [c_6], rfl⟩, by rw [ht]; exact hP, va_K.moved hW.alike hK, hD⟩, hS.F ht⟩) hS.2.2 dX12_letter_31
  · refine lv_iload_n hx hb dX12_letter_9 rfl (lv_at hl 1 rfl) ?_
    refine lv_aload_n hx hb dX12_letter_10 rfl (lv_at hl 0 rfl) ?_
    refine va_get (D := (dC, dI)) (ci := 12) (v := .int x_printed) (C := RX12) (T := TX12) (N := 163) hx hb hts iX12_letter_in12 hown hK hP 0 rfl rfl 125 (by decide) (hts (.fieldLink RX12 933 "OptimaWorksModel" "printed" "I") (by decide +kernel)) (fun _ h9 => h9) (congrArg some h_printed) dX12_letter_11 ?_
    refine lv_icmp_lt (tgt := 21) hx hb dX12_letter_14 (by decide) (fun c_14 => ?_) (fun c_14 => ?_)
    · refine lv_aload_n hx hb dX12_letter_21 rfl (lv_at hl 0 rfl) ?_
      refine va_get (D := (dC, dI)) (ci := 12) (v := .ref b_out) (C := RX12) (T := TX12) (N := 163) hx hb hts iX12_letter_in12 hown hK hP 0 rfl rfl 124 (by decide) (hts (.fieldLink RX12 248 "OptimaWorksModel" "out" "[B") (by decide +kernel)) (fun _ h9 => h9) (congrArg some h_out) dX12_letter_22 ?_
      refine lv_iload_n hx hb dX12_letter_25 rfl (lv_at hl 1 rfl) ?_
      refine va_bald hx hb hK hP 1 0 rfl rfl (vp_in_iff.mpr (by have t_c_6 : ¬ (i : Int32).toInt < (0 : Int32).toInt := fun h => c_6 ((Int32.lt_iff_toInt_lt).mpr h); have t_c_14 : (i : Int32).toInt < (x_printed : Int32).toInt := (Int32.lt_iff_toInt_lt).mp c_14; have z2 : (0 : Int32).toInt = 0 := (by decide); have e_0 := hps; omega)) dX12_letter_26 ?_
      refine lv_sipush (v := 255) hx hb dX12_letter_27 (by decide) ?_
      refine lv_iand hx hb dX12_letter_30 ?_
      refine W.widen (k := 0) (n := 0) (by decide +kernel) (by decide +kernel) ?_
      exact W.iret (v := ((r_out (i).toNatClampNeg) &&& 255)) hx hb hr (fun t ht hW => ⟨⟨((r_out (i).toNatClampNeg) &&& 255), (mUp v 0 (.int 0)), rfl, ⟨by simp [c_6, c_14], rfl⟩, by rw [ht]; exact hP, va_K.moved hW.alike hK, hD⟩, hS.F ht⟩) hS.2.2 dX12_letter_31
    · refine lv_iconst (v := (-1)) hx hb dX12_letter_17 (by decide) ?_
      refine lv_goto (tgt := 31) hx hb dX12_letter_18 (by decide) ?_
      refine W.widen (k := 0) (n := 0) (by decide +kernel) (by decide +kernel) ?_
      exact W.iret (v := (-1)) hx hb hr (fun t ht hW => ⟨⟨(-1), (mUp v 0 (.int 0)), rfl, ⟨by simp [c_6, c_14], rfl⟩, by rw [ht]; exact hP, va_K.moved hW.alike hK, hD⟩, hS.F ht⟩) hS.2.2 dX12_letter_31
end
section
def wsFX11_write : List Cond := .code yX11_write cX11_write 2 (some .int) :: wsV RX11 135 RX11 yX11_needModel wsX11_needModel
theorem gFX11_write : GoodIn wsFX11_write (wsV RX11 135 RX11 yX11_needModel wsX11_needModel) := goodIn_sub (fun _ h => List.mem_cons_of_mem _ h) (by decide +kernel)
theorem dX11_write_0 : decode cX11_write 0 = .ok (.aload_n 0, 1) := by decide +kernel
theorem dX11_write_1 : decode cX11_write 1 = .ok (.invokevirtual 135, 3) := by decide +kernel
set_option maxHeartbeats 4000000 in
set_option maxRecDepth 100000 in
/-- without a model it throws -/
theorem x_X11_write (l : Launch) (hst : l.stackTraces = false) (dC : Nat → ClassId) (dI : Nat → Nat → Nat) (h0 : Nat) (a0 a1 a2 a3 : Nat) (sl : Int32) (f5 f6 f7 f8 f9 f10 : Value) (nv nr ng nd nc : Int32) (g6 g7 g8 g9 : Value) (pr : Int32) (g11 g12 g13 g14 g15 g16 : Value)  (sz : Nat) : vx_Met l yX11_write wsFX11_write ({ frames := 7, cells := 1, slots := 6, locals := 101 }) (va_Pc [.ref h0] (fun U => U.heap.size = sz ∧ va_P (dC, dI) vwCl [(h0, .inr (11, [.ref a0, .ref a1, .ref a2, .ref a3, .int sl, f5, f6, f7, f8, f9, f10])), (a2, .inr (1, [.int 0, .int nv, .int nr, .int ng, .int nd, .int nc, g6, g7, g8, g9, .int pr, g11, g12, g13, g14, g15, g16]))] U.heap ∧ va_K (dC, dI) vwCl [] U ∧ va_D (fun _ => True) [(h0, .inr (11, [.ref a0, .ref a1, .ref a2, .ref a3, .int sl, f5, f6, f7, f8, f9, f10])), (a2, .inr (1, [.int 0, .int nv, .int nr, .int ng, .int nd, .int nc, g6, g7, g8, g9, .int pr, g11, g12, g13, g14, g15, g16]))] ∧ vx_Zq Bundle.tN "UNASSIGNED_STACK" Bundle.steD (va_A [(h0, .inr (11, [.ref a0, .ref a1, .ref a2, .ref a3, .int sl, f5, f6, f7, f8, f9, f10])), (a2, .inr (1, [.int 0, .int nv, .int nr, .int ng, .int nd, .int nc, g6, g7, g8, g9, .int pr, g11, g12, g13, g14, g15, g16]))] sz) U U.heap ∧ vx_Zq Bundle.tN "SUPPRESSED_SENTINEL" Bundle.listD (va_A [(h0, .inr (11, [.ref a0, .ref a1, .ref a2, .ref a3, .int sl, f5, f6, f7, f8, f9, f10])), (a2, .inr (1, [.int 0, .int nv, .int nr, .int ng, .int nd, .int nc, g6, g7, g8, g9, .int pr, g11, g12, g13, g14, g15, g16]))] sz) U U.heap ∧ (∀ w ∈ ngX11_161, va_Nw w U))) (va_Qi (fun (r : Int32) (_ : Unit) => False) (fun _ t => va_P (dC, dI) vwCl [(h0, .inr (11, [.ref a0, .ref a1, .ref a2, .ref a3, .int sl, f5, f6, f7, f8, f9, f10])), (a2, .inr (1, [.int 0, .int nv, .int nr, .int ng, .int nd, .int nc, g6, g7, g8, g9, .int pr, g11, g12, g13, g14, g15, g16]))] t.heap ∧ va_K (dC, dI) vwCl [] t ∧ va_D (va_A [(h0, .inr (11, [.ref a0, .ref a1, .ref a2, .ref a3, .int sl, f5, f6, f7, f8, f9, f10])), (a2, .inr (1, [.int 0, .int nv, .int nr, .int ng, .int nd, .int nc, g6, g7, g8, g9, .int pr, g11, g12, g13, g14, g15, g16]))] sz) [(h0, .inr (11, [.ref a0, .ref a1, .ref a2, .ref a3, .int sl, f5, f6, f7, f8, f9, f10])), (a2, .inr (1, [.int 0, .int nv, .int nr, .int ng, .int nd, .int nc, g6, g7, g8, g9, .int pr, g11, g12, g13, g14, g15, g16]))]) (va_A [(h0, .inr (11, [.ref a0, .ref a1, .ref a2, .ref a3, .int sl, f5, f6, f7, f8, f9, f10])), (a2, .inr (1, [.int 0, .int nv, .int nr, .int ng, .int nd, .int nc, g6, g7, g8, g9, .int pr, g11, g12, g13, g14, g15, g16]))] sz)) (vx_X (fun n : String => (n = "java/lang/IllegalStateException" ∧ (True))) (fun E n t => E = n ∧ va_P (dC, dI) vwCl [(h0, .inr (11, [.ref a0, .ref a1, .ref a2, .ref a3, .int sl, f5, f6, f7, f8, f9, f10])), (a2, .inr (1, [.int 0, .int nv, .int nr, .int ng, .int nd, .int nc, g6, g7, g8, g9, .int pr, g11, g12, g13, g14, g15, g16]))] t.heap ∧ va_K (dC, dI) vwCl [] t ∧ va_D (va_A [(h0, .inr (11, [.ref a0, .ref a1, .ref a2, .ref a3, .int sl, f5, f6, f7, f8, f9, f10])), (a2, .inr (1, [.int 0, .int nv, .int nr, .int ng, .int nd, .int nc, g6, g7, g8, g9, .int pr, g11, g12, g13, g14, g15, g16]))] sz) [(h0, .inr (11, [.ref a0, .ref a1, .ref a2, .ref a3, .int sl, f5, f6, f7, f8, f9, f10])), (a2, .inr (1, [.int 0, .int nv, .int nr, .int ng, .int nd, .int nc, g6, g7, g8, g9, .int pr, g11, g12, g13, g14, g15, g16]))]) (va_A [(h0, .inr (11, [.ref a0, .ref a1, .ref a2, .ref a3, .int sl, f5, f6, f7, f8, f9, f10])), (a2, .inr (1, [.int 0, .int nv, .int nr, .int ng, .int nd, .int nc, g6, g7, g8, g9, .int pr, g11, g12, g13, g14, g15, g16]))] sz)) 1 6 (va_A [(h0, .inr (11, [.ref a0, .ref a1, .ref a2, .ref a3, .int sl, f5, f6, f7, f8, f9, f10])), (a2, .inr (1, [.int 0, .int nv, .int nr, .int ng, .int nd, .int nc, g6, g7, g8, g9, .int pr, g11, g12, g13, g14, g15, g16]))] sz) := by
  refine vx_ofW (cc := cX11_write) (maxL := 2) (ret := (some .int)) (by decide) rfl ?_
  intro p e s m args below meth c s₁ B hml htab hv
  obtain ⟨rfl, hsz, hP, hK, hD0, hU, hN, hngX11_161⟩ := hv
  have hx := B.exec
  have hb := B.bytes
  have hr := B.returns
  have hts := atoms_spec (ws := wsFX11_write) B.pre
  have hown : s.vm.findClass RX11 = some m.cls := findClass_of_methodNamed B.named
  have hlocks := B.notSynchronized
  subst hsz
  have hD := hD0.self (sz := s.heap.size)
  generalize hAe : va_A [(h0, .inr (11, [.ref a0, .ref a1, .ref a2, .ref a3, .int sl, f5, f6, f7, f8, f9, f10])), (a2, .inr (1, [.int 0, .int nv, .int nr, .int ng, .int nd, .int nc, g6, g7, g8, g9, .int pr, g11, g12, g13, g14, g15, g16]))] s.heap.size = A at hD hU hN ⊢
  have hA : ∀ q : Nat, s.heap.size ≤ q → A q := fun q h => by rw [← hAe]; exact Or.inr h
  have hS : va_S A s.heap s.heap [] := va_S.rf
  have hP : va_P (dC, dI) vwCl [(h0, .inr (11, [.ref a0, .ref a1, .ref a2, .ref a3, .int sl, f5, f6, f7, f8, f9, f10])), (a2, .inr (1, [.int 0, .int nv, .int nr, .int ng, .int nd, .int nc, g6, g7, g8, g9, .int pr, g11, g12, g13, g14, g15, g16]))] s.heap := hP
  have hl := lv_entry ([.ref h0]) (n := 2) (Nat.le_of_ble_eq_true rfl)
  rw [lg_entry_eq]
  generalize (lg_sl ([.ref h0]) ++ List.replicate (2 - (lg_sl ([.ref h0])).length) Slot.unset).toArray = ls at hl ⊢
  have hl : lv_has ls 2 [(0, .ref h0)] := hl
  refine lv_aload_n hx hb dX11_write_0 rfl (lv_at hl 0 rfl) ?_
  have hPc := hP.sub (ws' := [(h0, .inr (11, [.ref a0, .ref a1, .ref a2, .ref a3, .int sl, f5, f6, f7, f8, f9, f10])), (a2, .inr (1, [.int 0, .int nv, .int nr, .int ng, .int nd, .int nc, g6, g7, g8, g9, .int pr, g11, g12, g13, g14, g15, g16]))]) [0, 1] rfl
  have hDc := hD.sub (ws' := [(h0, .inr (11, [.ref a0, .ref a1, .ref a2, .ref a3, .int sl, f5, f6, f7, f8, f9, f10])), (a2, .inr (1, [.int 0, .int nv, .int nr, .int ng, .int nd, .int nc, g6, g7, g8, g9, .int pr, g11, g12, g13, g14, g15, g16]))]) [0, 1] (by decide) rfl
  have hKc := hK.sub (tys' := []) [] rfl
  have hFc := va_free (wc := [(h0, .inr (11, [.ref a0, .ref a1, .ref a2, .ref a3, .int sl, f5, f6, f7, f8, f9, f10])), (a2, .inr (1, [.int 0, .int nv, .int nr, .int ng, .int nd, .int nc, g6, g7, g8, g9, .int pr, g11, g12, g13, g14, g15, g16]))]) hD hS hA [0, 1] rfl
  refine vx_callv (vx_runV (As := []) (rest := []) ⟨hx, hb, hml, hown, hts⟩ (x_X11_needModel l hst dC dI h0 a0 a1 a2 a3 sl f5 f6 f7 f8 f9 f10 0 nv nr ng nd nc g6 g7 g8 g9 pr g11 g12 g13 g14 g15 g16 s.heap.size) (cwV 0 hts gFX11_write rfl rfl rfl (by decide +kernel) ⟨by decide +kernel, by decide +kernel⟩) ⟨fun a U g mk q => by obtain ⟨q0, q1, qP, qK, qD, qU, qN, qngX11_161⟩ := q; exact ⟨q0, q1, qP, va_K.moved (u := U) (U := U.calling g mk a) (Vm.Alike.refl U.vm) qK, qD, vx_Zq.moved (u := U) (U := U.calling g mk a) (Vm.Alike.refl U.vm) qU, vx_Zq.moved (u := U) (U := U.calling g mk a) (Vm.Alike.refl U.vm) qN, fun w h => va_Nw.same (u := U) (U := U.calling g mk a) (ngX11_161_ot w h) rfl (qngX11_161 w h)⟩, va_recv hKc hPc (ci := 11) (q0 := 0) rfl rfl, fun U hU9 hW => ⟨rfl, by rw [hU9], by rw [hU9]; exact hPc, va_K.moved hW.alike hKc, hDc.weaken (fun _ _ _ _ => trivial), by rw [hU9]; exact ((hU.kept (fun a h1 h2 => hS.2.1 a h1 h2)).narrow hFc).moved hW.alike, by rw [hU9]; exact ((hN.kept (fun a h1 h2 => hS.2.1 a h1 h2)).narrow hFc).moved hW.alike, fun w h => cd_warm (ngX11_161_cd w h) hW (hngX11_161 w h)⟩⟩ rfl rfl hl.1 rfl (lv_room (Nat.le_of_ble_eq_true rfl)) dX11_write_1 ⟨by decide +kernel, by decide +kernel⟩) hS (fun q _ h => hFc q h) hFc (fun q _ h => hFc q h) (fun E ce q9 u t H1 locs1 ht hvm hw hB hz1 hk1 hS hc1 hc2 hc3 => ?_) (fun u t H1 locs1 ht hvm hw hB hz1 hk1 hS => absurd rfl hw)
  obtain ⟨hE, hP1, hK1, hD1⟩ := hB
  subst hE
  rw [ht] at hP1
  have hK1 := va_K.moved hvm.symm hK1
  obtain ⟨hP, hD⟩ := va_join (wr := []) (w1 := [(h0, .inr (11, [.ref a0, .ref a1, .ref a2, .ref a3, .int sl, f5, f6, f7, f8, f9, f10])), (a2, .inr (1, [.int 0, .int nv, .int nr, .int ng, .int nd, .int nc, g6, g7, g8, g9, .int pr, g11, g12, g13, g14, g15, g16]))]) hP hD [0, 1] [] rfl rfl (by decide) (by decide) hk1 hFc hP1 hD1
  have hP := hP.sub (ws' := [(h0, .inr (11, [.ref a0, .ref a1, .ref a2, .ref a3, .int sl, f5, f6, f7, f8, f9, f10])), (a2, .inr (1, [.int 0, .int nv, .int nr, .int ng, .int nd, .int nc, g6, g7, g8, g9, .int pr, g11, g12, g13, g14, g15, g16]))]) [0, 1] rfl
  have hD := hD.sub (ws' := [(h0, .inr (11, [.ref a0, .ref a1, .ref a2, .ref a3, .int sl, f5, f6, f7, f8, f9, f10])), (a2, .inr (1, [.int 0, .int nv, .int nr, .int ng, .int nd, .int nc, g6, g7, g8, g9, .int pr, g11, g12, g13, g14, g15, g16]))]) [0, 1] (by decide) rfl
  exact vx_out (fun x hx9 => (htab x hx9).elim) hlocks hc1 hc2 hc3 (fun t ht hvm => ⟨_, ⟨hw.1, trivial⟩, ⟨rfl, by rw [ht]; exact hP, va_K.moved hvm hK, hD⟩, hS.F ht⟩) hS.2.2 (by decide +kernel) (by decide +kernel)
def wsFX11_solve : List Cond := .code yX11_solve cX11_solve 2 (some .boolean) :: wsV RX11 135 RX11 yX11_needModel wsX11_needModel
theorem gFX11_solve : GoodIn wsFX11_solve (wsV RX11 135 RX11 yX11_needModel wsX11_needModel) := goodIn_sub (fun _ h => List.mem_cons_of_mem _ h) (by decide +kernel)
theorem dX11_solve_0 : decode cX11_solve 0 = .ok (.aload_n 0, 1) := by decide +kernel
theorem dX11_solve_1 : decode cX11_solve 1 = .ok (.invokevirtual 135, 3) := by decide +kernel
set_option maxHeartbeats 4000000 in
set_option maxRecDepth 100000 in
/-- without a model it throws -/
theorem x_X11_solve (l : Launch) (hst : l.stackTraces = false) (dC : Nat → ClassId) (dI : Nat → Nat → Nat) (h0 : Nat) (a0 a1 a2 a3 : Nat) (sl : Int32) (f5 f6 f7 f8 f9 f10 : Value) (nv nr ng nd nc : Int32) (g6 g7 g8 g9 : Value) (pr : Int32) (g11 g12 g13 g14 g15 g16 : Value) (rx : Int32) (sz : Nat) : vx_Met l yX11_solve wsFX11_solve ({ frames := 7, cells := 1, slots := 6, locals := 101 }) (va_Pc [.ref h0, .int rx] (fun U => U.heap.size = sz ∧ va_P (dC, dI) vwCl [(h0, .inr (11, [.ref a0, .ref a1, .ref a2, .ref a3, .int sl, f5, f6, f7, f8, f9, f10])), (a2, .inr (1, [.int 0, .int nv, .int nr, .int ng, .int nd, .int nc, g6, g7, g8, g9, .int pr, g11, g12, g13, g14, g15, g16]))] U.heap ∧ va_K (dC, dI) vwCl [] U ∧ va_D (fun _ => True) [(h0, .inr (11, [.ref a0, .ref a1, .ref a2, .ref a3, .int sl, f5, f6, f7, f8, f9, f10])), (a2, .inr (1, [.int 0, .int nv, .int nr, .int ng, .int nd, .int nc, g6, g7, g8, g9, .int pr, g11, g12, g13, g14, g15, g16]))] ∧ vx_Zq Bundle.tN "UNASSIGNED_STACK" Bundle.steD (va_A [(h0, .inr (11, [.ref a0, .ref a1, .ref a2, .ref a3, .int sl, f5, f6, f7, f8, f9, f10])), (a2, .inr (1, [.int 0, .int nv, .int nr, .int ng, .int nd, .int nc, g6, g7, g8, g9, .int pr, g11, g12, g13, g14, g15, g16]))] sz) U U.heap ∧ vx_Zq Bundle.tN "SUPPRESSED_SENTINEL" Bundle.listD (va_A [(h0, .inr (11, [.ref a0, .ref a1, .ref a2, .ref a3, .int sl, f5, f6, f7, f8, f9, f10])), (a2, .inr (1, [.int 0, .int nv, .int nr, .int ng, .int nd, .int nc, g6, g7, g8, g9, .int pr, g11, g12, g13, g14, g15, g16]))] sz) U U.heap ∧ (∀ w ∈ ngX11_161, va_Nw w U))) (va_Qi (fun (r : Int32) (_ : Unit) => False) (fun _ t => va_P (dC, dI) vwCl [(h0, .inr (11, [.ref a0, .ref a1, .ref a2, .ref a3, .int sl, f5, f6, f7, f8, f9, f10])), (a2, .inr (1, [.int 0, .int nv, .int nr, .int ng, .int nd, .int nc, g6, g7, g8, g9, .int pr, g11, g12, g13, g14, g15, g16]))] t.heap ∧ va_K (dC, dI) vwCl [] t ∧ va_D (va_A [(h0, .inr (11, [.ref a0, .ref a1, .ref a2, .ref a3, .int sl, f5, f6, f7, f8, f9, f10])), (a2, .inr (1, [.int 0, .int nv, .int nr, .int ng, .int nd, .int nc, g6, g7, g8, g9, .int pr, g11, g12, g13, g14, g15, g16]))] sz) [(h0, .inr (11, [.ref a0, .ref a1, .ref a2, .ref a3, .int sl, f5, f6, f7, f8, f9, f10])), (a2, .inr (1, [.int 0, .int nv, .int nr, .int ng, .int nd, .int nc, g6, g7, g8, g9, .int pr, g11, g12, g13, g14, g15, g16]))]) (va_A [(h0, .inr (11, [.ref a0, .ref a1, .ref a2, .ref a3, .int sl, f5, f6, f7, f8, f9, f10])), (a2, .inr (1, [.int 0, .int nv, .int nr, .int ng, .int nd, .int nc, g6, g7, g8, g9, .int pr, g11, g12, g13, g14, g15, g16]))] sz)) (vx_X (fun n : String => (n = "java/lang/IllegalStateException" ∧ (True))) (fun E n t => E = n ∧ va_P (dC, dI) vwCl [(h0, .inr (11, [.ref a0, .ref a1, .ref a2, .ref a3, .int sl, f5, f6, f7, f8, f9, f10])), (a2, .inr (1, [.int 0, .int nv, .int nr, .int ng, .int nd, .int nc, g6, g7, g8, g9, .int pr, g11, g12, g13, g14, g15, g16]))] t.heap ∧ va_K (dC, dI) vwCl [] t ∧ va_D (va_A [(h0, .inr (11, [.ref a0, .ref a1, .ref a2, .ref a3, .int sl, f5, f6, f7, f8, f9, f10])), (a2, .inr (1, [.int 0, .int nv, .int nr, .int ng, .int nd, .int nc, g6, g7, g8, g9, .int pr, g11, g12, g13, g14, g15, g16]))] sz) [(h0, .inr (11, [.ref a0, .ref a1, .ref a2, .ref a3, .int sl, f5, f6, f7, f8, f9, f10])), (a2, .inr (1, [.int 0, .int nv, .int nr, .int ng, .int nd, .int nc, g6, g7, g8, g9, .int pr, g11, g12, g13, g14, g15, g16]))]) (va_A [(h0, .inr (11, [.ref a0, .ref a1, .ref a2, .ref a3, .int sl, f5, f6, f7, f8, f9, f10])), (a2, .inr (1, [.int 0, .int nv, .int nr, .int ng, .int nd, .int nc, g6, g7, g8, g9, .int pr, g11, g12, g13, g14, g15, g16]))] sz)) 1 6 (va_A [(h0, .inr (11, [.ref a0, .ref a1, .ref a2, .ref a3, .int sl, f5, f6, f7, f8, f9, f10])), (a2, .inr (1, [.int 0, .int nv, .int nr, .int ng, .int nd, .int nc, g6, g7, g8, g9, .int pr, g11, g12, g13, g14, g15, g16]))] sz) := by
  refine vx_ofW (cc := cX11_solve) (maxL := 2) (ret := (some .boolean)) (by decide) rfl ?_
  intro p e s m args below meth c s₁ B hml htab hv
  obtain ⟨rfl, hsz, hP, hK, hD0, hU, hN, hngX11_161⟩ := hv
  have hx := B.exec
  have hb := B.bytes
  have hr := B.returns
  have hts := atoms_spec (ws := wsFX11_solve) B.pre
  have hown : s.vm.findClass RX11 = some m.cls := findClass_of_methodNamed B.named
  have hlocks := B.notSynchronized
  subst hsz
  have hD := hD0.self (sz := s.heap.size)
  generalize hAe : va_A [(h0, .inr (11, [.ref a0, .ref a1, .ref a2, .ref a3, .int sl, f5, f6, f7, f8, f9, f10])), (a2, .inr (1, [.int 0, .int nv, .int nr, .int ng, .int nd, .int nc, g6, g7, g8, g9, .int pr, g11, g12, g13, g14, g15, g16]))] s.heap.size = A at hD hU hN ⊢
  have hA : ∀ q : Nat, s.heap.size ≤ q → A q := fun q h => by rw [← hAe]; exact Or.inr h
  have hS : va_S A s.heap s.heap [] := va_S.rf
  have hP : va_P (dC, dI) vwCl [(h0, .inr (11, [.ref a0, .ref a1, .ref a2, .ref a3, .int sl, f5, f6, f7, f8, f9, f10])), (a2, .inr (1, [.int 0, .int nv, .int nr, .int ng, .int nd, .int nc, g6, g7, g8, g9, .int pr, g11, g12, g13, g14, g15, g16]))] s.heap := hP
  have hl := lv_entry ([.ref h0, .int rx]) (n := 2) (Nat.le_of_ble_eq_true rfl)
  rw [lg_entry_eq]
  generalize (lg_sl ([.ref h0, .int rx]) ++ List.replicate (2 - (lg_sl ([.ref h0, .int rx])).length) Slot.unset).toArray = ls at hl ⊢
  have hl : lv_has ls 2 [(0, .ref h0), (1, .int rx)] := hl
  refine lv_aload_n hx hb dX11_solve_0 rfl (lv_at hl 0 rfl) ?_
  have hPc := hP.sub (ws' := [(h0, .inr (11, [.ref a0, .ref a1, .ref a2, .ref a3, .int sl, f5, f6, f7, f8, f9, f10])), (a2, .inr (1, [.int 0, .int nv, .int nr, .int ng, .int nd, .int nc, g6, g7, g8, g9, .int pr, g11, g12, g13, g14, g15, g16]))]) [0, 1] rfl
  have hDc := hD.sub (ws' := [(h0, .inr (11, [.ref a0, .ref a1, .ref a2, .ref a3, .int sl, f5, f6, f7, f8, f9, f10])), (a2, .inr (1, [.int 0, .int nv, .int nr, .int ng, .int nd, .int nc, g6, g7, g8, g9, .int pr, g11, g12, g13, g14, g15, g16]))]) [0, 1] (by decide) rfl
  have hKc := hK.sub (tys' := []) [] rfl
  have hFc := va_free (wc := [(h0, .inr (11, [.ref a0, .ref a1, .ref a2, .ref a3, .int sl, f5, f6, f7, f8, f9, f10])), (a2, .inr (1, [.int 0, .int nv, .int nr, .int ng, .int nd, .int nc, g6, g7, g8, g9, .int pr, g11, g12, g13, g14, g15, g16]))]) hD hS hA [0, 1] rfl
  refine vx_callv (vx_runV (As := []) (rest := []) ⟨hx, hb, hml, hown, hts⟩ (x_X11_needModel l hst dC dI h0 a0 a1 a2 a3 sl f5 f6 f7 f8 f9 f10 0 nv nr ng nd nc g6 g7 g8 g9 pr g11 g12 g13 g14 g15 g16 s.heap.size) (cwV 0 hts gFX11_solve rfl rfl rfl (by decide +kernel) ⟨by decide +kernel, by decide +kernel⟩) ⟨fun a U g mk q => by obtain ⟨q0, q1, qP, qK, qD, qU, qN, qngX11_161⟩ := q; exact ⟨q0, q1, qP, va_K.moved (u := U) (U := U.calling g mk a) (Vm.Alike.refl U.vm) qK, qD, vx_Zq.moved (u := U) (U := U.calling g mk a) (Vm.Alike.refl U.vm) qU, vx_Zq.moved (u := U) (U := U.calling g mk a) (Vm.Alike.refl U.vm) qN, fun w h => va_Nw.same (u := U) (U := U.calling g mk a) (ngX11_161_ot w h) rfl (qngX11_161 w h)⟩, va_recv hKc hPc (ci := 11) (q0 := 0) rfl rfl, fun U hU9 hW => ⟨rfl, by rw [hU9], by rw [hU9]; exact hPc, va_K.moved hW.alike hKc, hDc.weaken (fun _ _ _ _ => trivial), by rw [hU9]; exact ((hU.kept (fun a h1 h2 => hS.2.1 a h1 h2)).narrow hFc).moved hW.alike, by rw [hU9]; exact ((hN.kept (fun a h1 h2 => hS.2.1 a h1 h2)).narrow hFc).moved hW.alike, fun w h => cd_warm (ngX11_161_cd w h) hW (hngX11_161 w h)⟩⟩ rfl rfl hl.1 rfl (lv_room (Nat.le_of_ble_eq_true rfl)) dX11_solve_1 ⟨by decide +kernel, by decide +kernel⟩) hS (fun q _ h => hFc q h) hFc (fun q _ h => hFc q h) (fun E ce q9 u t H1 locs1 ht hvm hw hB hz1 hk1 hS hc1 hc2 hc3 => ?_) (fun u t H1 locs1 ht hvm hw hB hz1 hk1 hS => absurd rfl hw)
  obtain ⟨hE, hP1, hK1, hD1⟩ := hB
  subst hE
  rw [ht] at hP1
  have hK1 := va_K.moved hvm.symm hK1
  obtain ⟨hP, hD⟩ := va_join (wr := []) (w1 := [(h0, .inr (11, [.ref a0, .ref a1, .ref a2, .ref a3, .int sl, f5, f6, f7, f8, f9, f10])), (a2, .inr (1, [.int 0, .int nv, .int nr, .int ng, .int nd, .int nc, g6, g7, g8, g9, .int pr, g11, g12, g13, g14, g15, g16]))]) hP hD [0, 1] [] rfl rfl (by decide) (by decide) hk1 hFc hP1 hD1
  have hP := hP.sub (ws' := [(h0, .inr (11, [.ref a0, .ref a1, .ref a2, .ref a3, .int sl, f5, f6, f7, f8, f9, f10])), (a2, .inr (1, [.int 0, .int nv, .int nr, .int ng, .int nd, .int nc, g6, g7, g8, g9, .int pr, g11, g12, g13, g14, g15, g16]))]) [0, 1] rfl
  have hD := hD.sub (ws' := [(h0, .inr (11, [.ref a0, .ref a1, .ref a2, .ref a3, .int sl, f5, f6, f7, f8, f9, f10])), (a2, .inr (1, [.int 0, .int nv, .int nr, .int ng, .int nd, .int nc, g6, g7, g8, g9, .int pr, g11, g12, g13, g14, g15, g16]))]) [0, 1] (by decide) rfl
  exact vx_out (fun x hx9 => (htab x hx9).elim) hlocks hc1 hc2 hc3 (fun t ht hvm => ⟨_, ⟨hw.1, trivial⟩, ⟨rfl, by rw [ht]; exact hP, va_K.moved hvm hK, hD⟩, hS.F ht⟩) hS.2.2 (by decide +kernel) (by decide +kernel)
def wsFX11_count : List Cond := .code yX11_count cX11_count 1 (some .int) :: wsV RX11 135 RX11 yX11_needModel wsX11_needModel
theorem gFX11_count : GoodIn wsFX11_count (wsV RX11 135 RX11 yX11_needModel wsX11_needModel) := goodIn_sub (fun _ h => List.mem_cons_of_mem _ h) (by decide +kernel)
theorem dX11_count_0 : decode cX11_count 0 = .ok (.aload_n 0, 1) := by decide +kernel
theorem dX11_count_1 : decode cX11_count 1 = .ok (.invokevirtual 135, 3) := by decide +kernel
set_option maxHeartbeats 4000000 in
set_option maxRecDepth 100000 in
/-- without a model it throws -/
theorem x_X11_count (l : Launch) (hst : l.stackTraces = false) (dC : Nat → ClassId) (dI : Nat → Nat → Nat) (h0 : Nat) (a0 a1 a2 a3 : Nat) (sl : Int32) (f5 f6 f7 f8 f9 f10 : Value) (nv nr ng nd nc : Int32) (g6 g7 g8 g9 : Value) (pr : Int32) (g11 g12 g13 g14 g15 g16 : Value)  (sz : Nat) : vx_Met l yX11_count wsFX11_count ({ frames := 7, cells := 1, slots := 6, locals := 101 }) (va_Pc [.ref h0] (fun U => U.heap.size = sz ∧ va_P (dC, dI) vwCl [(h0, .inr (11, [.ref a0, .ref a1, .ref a2, .ref a3, .int sl, f5, f6, f7, f8, f9, f10])), (a2, .inr (1, [.int 0, .int nv, .int nr, .int ng, .int nd, .int nc, g6, g7, g8, g9, .int pr, g11, g12, g13, g14, g15, g16]))] U.heap ∧ va_K (dC, dI) vwCl [] U ∧ va_D (fun _ => True) [(h0, .inr (11, [.ref a0, .ref a1, .ref a2, .ref a3, .int sl, f5, f6, f7, f8, f9, f10])), (a2, .inr (1, [.int 0, .int nv, .int nr, .int ng, .int nd, .int nc, g6, g7, g8, g9, .int pr, g11, g12, g13, g14, g15, g16]))] ∧ vx_Zq Bundle.tN "UNASSIGNED_STACK" Bundle.steD (va_A [(h0, .inr (11, [.ref a0, .ref a1, .ref a2, .ref a3, .int sl, f5, f6, f7, f8, f9, f10])), (a2, .inr (1, [.int 0, .int nv, .int nr, .int ng, .int nd, .int nc, g6, g7, g8, g9, .int pr, g11, g12, g13, g14, g15, g16]))] sz) U U.heap ∧ vx_Zq Bundle.tN "SUPPRESSED_SENTINEL" Bundle.listD (va_A [(h0, .inr (11, [.ref a0, .ref a1, .ref a2, .ref a3, .int sl, f5, f6, f7, f8, f9, f10])), (a2, .inr (1, [.int 0, .int nv, .int nr, .int ng, .int nd, .int nc, g6, g7, g8, g9, .int pr, g11, g12, g13, g14, g15, g16]))] sz) U U.heap ∧ (∀ w ∈ ngX11_161, va_Nw w U))) (va_Qi (fun (r : Int32) (_ : Unit) => False) (fun _ t => va_P (dC, dI) vwCl [(h0, .inr (11, [.ref a0, .ref a1, .ref a2, .ref a3, .int sl, f5, f6, f7, f8, f9, f10])), (a2, .inr (1, [.int 0, .int nv, .int nr, .int ng, .int nd, .int nc, g6, g7, g8, g9, .int pr, g11, g12, g13, g14, g15, g16]))] t.heap ∧ va_K (dC, dI) vwCl [] t ∧ va_D (va_A [(h0, .inr (11, [.ref a0, .ref a1, .ref a2, .ref a3, .int sl, f5, f6, f7, f8, f9, f10])), (a2, .inr (1, [.int 0, .int nv, .int nr, .int ng, .int nd, .int nc, g6, g7, g8, g9, .int pr, g11, g12, g13, g14, g15, g16]))] sz) [(h0, .inr (11, [.ref a0, .ref a1, .ref a2, .ref a3, .int sl, f5, f6, f7, f8, f9, f10])), (a2, .inr (1, [.int 0, .int nv, .int nr, .int ng, .int nd, .int nc, g6, g7, g8, g9, .int pr, g11, g12, g13, g14, g15, g16]))]) (va_A [(h0, .inr (11, [.ref a0, .ref a1, .ref a2, .ref a3, .int sl, f5, f6, f7, f8, f9, f10])), (a2, .inr (1, [.int 0, .int nv, .int nr, .int ng, .int nd, .int nc, g6, g7, g8, g9, .int pr, g11, g12, g13, g14, g15, g16]))] sz)) (vx_X (fun n : String => (n = "java/lang/IllegalStateException" ∧ (True))) (fun E n t => E = n ∧ va_P (dC, dI) vwCl [(h0, .inr (11, [.ref a0, .ref a1, .ref a2, .ref a3, .int sl, f5, f6, f7, f8, f9, f10])), (a2, .inr (1, [.int 0, .int nv, .int nr, .int ng, .int nd, .int nc, g6, g7, g8, g9, .int pr, g11, g12, g13, g14, g15, g16]))] t.heap ∧ va_K (dC, dI) vwCl [] t ∧ va_D (va_A [(h0, .inr (11, [.ref a0, .ref a1, .ref a2, .ref a3, .int sl, f5, f6, f7, f8, f9, f10])), (a2, .inr (1, [.int 0, .int nv, .int nr, .int ng, .int nd, .int nc, g6, g7, g8, g9, .int pr, g11, g12, g13, g14, g15, g16]))] sz) [(h0, .inr (11, [.ref a0, .ref a1, .ref a2, .ref a3, .int sl, f5, f6, f7, f8, f9, f10])), (a2, .inr (1, [.int 0, .int nv, .int nr, .int ng, .int nd, .int nc, g6, g7, g8, g9, .int pr, g11, g12, g13, g14, g15, g16]))]) (va_A [(h0, .inr (11, [.ref a0, .ref a1, .ref a2, .ref a3, .int sl, f5, f6, f7, f8, f9, f10])), (a2, .inr (1, [.int 0, .int nv, .int nr, .int ng, .int nd, .int nc, g6, g7, g8, g9, .int pr, g11, g12, g13, g14, g15, g16]))] sz)) 1 6 (va_A [(h0, .inr (11, [.ref a0, .ref a1, .ref a2, .ref a3, .int sl, f5, f6, f7, f8, f9, f10])), (a2, .inr (1, [.int 0, .int nv, .int nr, .int ng, .int nd, .int nc, g6, g7, g8, g9, .int pr, g11, g12, g13, g14, g15, g16]))] sz) := by
  refine vx_ofW (cc := cX11_count) (maxL := 1) (ret := (some .int)) (by decide) rfl ?_
  intro p e s m args below meth c s₁ B hml htab hv
  obtain ⟨rfl, hsz, hP, hK, hD0, hU, hN, hngX11_161⟩ := hv
  have hx := B.exec
  have hb := B.bytes
  have hr := B.returns
  have hts := atoms_spec (ws := wsFX11_count) B.pre
  have hown : s.vm.findClass RX11 = some m.cls := findClass_of_methodNamed B.named
  have hlocks := B.notSynchronized
  subst hsz
  have hD := hD0.self (sz := s.heap.size)
  generalize hAe : va_A [(h0, .inr (11, [.ref a0, .ref a1, .ref a2, .ref a3, .int sl, f5, f6, f7, f8, f9, f10])), (a2, .inr (1, [.int 0, .int nv, .int nr, .int ng, .int nd, .int nc, g6, g7, g8, g9, .int pr, g11, g12, g13, g14, g15, g16]))] s.heap.size = A at hD hU hN ⊢
  have hA : ∀ q : Nat, s.heap.size ≤ q → A q := fun q h => by rw [← hAe]; exact Or.inr h
  have hS : va_S A s.heap s.heap [] := va_S.rf
  have hP : va_P (dC, dI) vwCl [(h0, .inr (11, [.ref a0, .ref a1, .ref a2, .ref a3, .int sl, f5, f6, f7, f8, f9, f10])), (a2, .inr (1, [.int 0, .int nv, .int nr, .int ng, .int nd, .int nc, g6, g7, g8, g9, .int pr, g11, g12, g13, g14, g15, g16]))] s.heap := hP
  have hl := lv_entry ([.ref h0]) (n := 1) (Nat.le_of_ble_eq_true rfl)
  rw [lg_entry_eq]
  generalize (lg_sl ([.ref h0]) ++ List.replicate (1 - (lg_sl ([.ref h0])).length) Slot.unset).toArray = ls at hl ⊢
  have hl : lv_has ls 1 [(0, .ref h0)] := hl
  refine lv_aload_n hx hb dX11_count_0 rfl (lv_at hl 0 rfl) ?_
  have hPc := hP.sub (ws' := [(h0, .inr (11, [.ref a0, .ref a1, .ref a2, .ref a3, .int sl, f5, f6, f7, f8, f9, f10])), (a2, .inr (1, [.int 0, .int nv, .int nr, .int ng, .int nd, .int nc, g6, g7, g8, g9, .int pr, g11, g12, g13, g14, g15, g16]))]) [0, 1] rfl
  have hDc := hD.sub (ws' := [(h0, .inr (11, [.ref a0, .ref a1, .ref a2, .ref a3, .int sl, f5, f6, f7, f8, f9, f10])), (a2, .inr (1, [.int 0, .int nv, .int nr, .int ng, .int nd, .int nc, g6, g7, g8, g9, .int pr, g11, g12, g13, g14, g15, g16]))]) [0, 1] (by decide) rfl
  have hKc := hK.sub (tys' := []) [] rfl
  have hFc := va_free (wc := [(h0, .inr (11, [.ref a0, .ref a1, .ref a2, .ref a3, .int sl, f5, f6, f7, f8, f9, f10])), (a2, .inr (1, [.int 0, .int nv, .int nr, .int ng, .int nd, .int nc, g6, g7, g8, g9, .int pr, g11, g12, g13, g14, g15, g16]))]) hD hS hA [0, 1] rfl
  refine vx_callv (vx_runV (As := []) (rest := []) ⟨hx, hb, hml, hown, hts⟩ (x_X11_needModel l hst dC dI h0 a0 a1 a2 a3 sl f5 f6 f7 f8 f9 f10 0 nv nr ng nd nc g6 g7 g8 g9 pr g11 g12 g13 g14 g15 g16 s.heap.size) (cwV 0 hts gFX11_count rfl rfl rfl (by decide +kernel) ⟨by decide +kernel, by decide +kernel⟩) ⟨fun a U g mk q => by obtain ⟨q0, q1, qP, qK, qD, qU, qN, qngX11_161⟩ := q; exact ⟨q0, q1, qP, va_K.moved (u := U) (U := U.calling g mk a) (Vm.Alike.refl U.vm) qK, qD, vx_Zq.moved (u := U) (U := U.calling g mk a) (Vm.Alike.refl U.vm) qU, vx_Zq.moved (u := U) (U := U.calling g mk a) (Vm.Alike.refl U.vm) qN, fun w h => va_Nw.same (u := U) (U := U.calling g mk a) (ngX11_161_ot w h) rfl (qngX11_161 w h)⟩, va_recv hKc hPc (ci := 11) (q0 := 0) rfl rfl, fun U hU9 hW => ⟨rfl, by rw [hU9], by rw [hU9]; exact hPc, va_K.moved hW.alike hKc, hDc.weaken (fun _ _ _ _ => trivial), by rw [hU9]; exact ((hU.kept (fun a h1 h2 => hS.2.1 a h1 h2)).narrow hFc).moved hW.alike, by rw [hU9]; exact ((hN.kept (fun a h1 h2 => hS.2.1 a h1 h2)).narrow hFc).moved hW.alike, fun w h => cd_warm (ngX11_161_cd w h) hW (hngX11_161 w h)⟩⟩ rfl rfl hl.1 rfl (lv_room (Nat.le_of_ble_eq_true rfl)) dX11_count_1 ⟨by decide +kernel, by decide +kernel⟩) hS (fun q _ h => hFc q h) hFc (fun q _ h => hFc q h) (fun E ce q9 u t H1 locs1 ht hvm hw hB hz1 hk1 hS hc1 hc2 hc3 => ?_) (fun u t H1 locs1 ht hvm hw hB hz1 hk1 hS => absurd rfl hw)
  obtain ⟨hE, hP1, hK1, hD1⟩ := hB
  subst hE
  rw [ht] at hP1
  have hK1 := va_K.moved hvm.symm hK1
  obtain ⟨hP, hD⟩ := va_join (wr := []) (w1 := [(h0, .inr (11, [.ref a0, .ref a1, .ref a2, .ref a3, .int sl, f5, f6, f7, f8, f9, f10])), (a2, .inr (1, [.int 0, .int nv, .int nr, .int ng, .int nd, .int nc, g6, g7, g8, g9, .int pr, g11, g12, g13, g14, g15, g16]))]) hP hD [0, 1] [] rfl rfl (by decide) (by decide) hk1 hFc hP1 hD1
  have hP := hP.sub (ws' := [(h0, .inr (11, [.ref a0, .ref a1, .ref a2, .ref a3, .int sl, f5, f6, f7, f8, f9, f10])), (a2, .inr (1, [.int 0, .int nv, .int nr, .int ng, .int nd, .int nc, g6, g7, g8, g9, .int pr, g11, g12, g13, g14, g15, g16]))]) [0, 1] rfl
  have hD := hD.sub (ws' := [(h0, .inr (11, [.ref a0, .ref a1, .ref a2, .ref a3, .int sl, f5, f6, f7, f8, f9, f10])), (a2, .inr (1, [.int 0, .int nv, .int nr, .int ng, .int nd, .int nc, g6, g7, g8, g9, .int pr, g11, g12, g13, g14, g15, g16]))]) [0, 1] (by decide) rfl
  exact vx_out (fun x hx9 => (htab x hx9).elim) hlocks hc1 hc2 hc3 (fun t ht hvm => ⟨_, ⟨hw.1, trivial⟩, ⟨rfl, by rw [ht]; exact hP, va_K.moved hvm hK, hD⟩, hS.F ht⟩) hS.2.2 (by decide +kernel) (by decide +kernel)
def wsFX11_counted : List Cond := .code yX11_counted cX11_counted 3 (some .int) :: wsV RX11 135 RX11 yX11_needModel wsX11_needModel
theorem gFX11_counted : GoodIn wsFX11_counted (wsV RX11 135 RX11 yX11_needModel wsX11_needModel) := goodIn_sub (fun _ h => List.mem_cons_of_mem _ h) (by decide +kernel)
theorem dX11_counted_0 : decode cX11_counted 0 = .ok (.aload_n 0, 1) := by decide +kernel
theorem dX11_counted_1 : decode cX11_counted 1 = .ok (.invokevirtual 135, 3) := by decide +kernel
set_option maxHeartbeats 4000000 in
set_option maxRecDepth 100000 in
/-- without a model it throws -/
theorem x_X11_counted (l : Launch) (hst : l.stackTraces = false) (dC : Nat → ClassId) (dI : Nat → Nat → Nat) (h0 : Nat) (a0 a1 a2 a3 : Nat) (sl : Int32) (f5 f6 f7 f8 f9 f10 : Value) (nv nr ng nd nc : Int32) (g6 g7 g8 g9 : Value) (pr : Int32) (g11 g12 g13 g14 g15 g16 : Value) (ck : Int32) (cv : Int32) (sz : Nat) : vx_Met l yX11_counted wsFX11_counted ({ frames := 7, cells := 1, slots := 6, locals := 101 }) (va_Pc [.ref h0, .int ck, .int cv] (fun U => U.heap.size = sz ∧ va_P (dC, dI) vwCl [(h0, .inr (11, [.ref a0, .ref a1, .ref a2, .ref a3, .int sl, f5, f6, f7, f8, f9, f10])), (a2, .inr (1, [.int 0, .int nv, .int nr, .int ng, .int nd, .int nc, g6, g7, g8, g9, .int pr, g11, g12, g13, g14, g15, g16]))] U.heap ∧ va_K (dC, dI) vwCl [] U ∧ va_D (fun _ => True) [(h0, .inr (11, [.ref a0, .ref a1, .ref a2, .ref a3, .int sl, f5, f6, f7, f8, f9, f10])), (a2, .inr (1, [.int 0, .int nv, .int nr, .int ng, .int nd, .int nc, g6, g7, g8, g9, .int pr, g11, g12, g13, g14, g15, g16]))] ∧ vx_Zq Bundle.tN "UNASSIGNED_STACK" Bundle.steD (va_A [(h0, .inr (11, [.ref a0, .ref a1, .ref a2, .ref a3, .int sl, f5, f6, f7, f8, f9, f10])), (a2, .inr (1, [.int 0, .int nv, .int nr, .int ng, .int nd, .int nc, g6, g7, g8, g9, .int pr, g11, g12, g13, g14, g15, g16]))] sz) U U.heap ∧ vx_Zq Bundle.tN "SUPPRESSED_SENTINEL" Bundle.listD (va_A [(h0, .inr (11, [.ref a0, .ref a1, .ref a2, .ref a3, .int sl, f5, f6, f7, f8, f9, f10])), (a2, .inr (1, [.int 0, .int nv, .int nr, .int ng, .int nd, .int nc, g6, g7, g8, g9, .int pr, g11, g12, g13, g14, g15, g16]))] sz) U U.heap ∧ (∀ w ∈ ngX11_161, va_Nw w U))) (va_Qi (fun (r : Int32) (_ : Unit) => False) (fun _ t => va_P (dC, dI) vwCl [(h0, .inr (11, [.ref a0, .ref a1, .ref a2, .ref a3, .int sl, f5, f6, f7, f8, f9, f10])), (a2, .inr (1, [.int 0, .int nv, .int nr, .int ng, .int nd, .int nc, g6, g7, g8, g9, .int pr, g11, g12, g13, g14, g15, g16]))] t.heap ∧ va_K (dC, dI) vwCl [] t ∧ va_D (va_A [(h0, .inr (11, [.ref a0, .ref a1, .ref a2, .ref a3, .int sl, f5, f6, f7, f8, f9, f10])), (a2, .inr (1, [.int 0, .int nv, .int nr, .int ng, .int nd, .int nc, g6, g7, g8, g9, .int pr, g11, g12, g13, g14, g15, g16]))] sz) [(h0, .inr (11, [.ref a0, .ref a1, .ref a2, .ref a3, .int sl, f5, f6, f7, f8, f9, f10])), (a2, .inr (1, [.int 0, .int nv, .int nr, .int ng, .int nd, .int nc, g6, g7, g8, g9, .int pr, g11, g12, g13, g14, g15, g16]))]) (va_A [(h0, .inr (11, [.ref a0, .ref a1, .ref a2, .ref a3, .int sl, f5, f6, f7, f8, f9, f10])), (a2, .inr (1, [.int 0, .int nv, .int nr, .int ng, .int nd, .int nc, g6, g7, g8, g9, .int pr, g11, g12, g13, g14, g15, g16]))] sz)) (vx_X (fun n : String => (n = "java/lang/IllegalStateException" ∧ (True))) (fun E n t => E = n ∧ va_P (dC, dI) vwCl [(h0, .inr (11, [.ref a0, .ref a1, .ref a2, .ref a3, .int sl, f5, f6, f7, f8, f9, f10])), (a2, .inr (1, [.int 0, .int nv, .int nr, .int ng, .int nd, .int nc, g6, g7, g8, g9, .int pr, g11, g12, g13, g14, g15, g16]))] t.heap ∧ va_K (dC, dI) vwCl [] t ∧ va_D (va_A [(h0, .inr (11, [.ref a0, .ref a1, .ref a2, .ref a3, .int sl, f5, f6, f7, f8, f9, f10])), (a2, .inr (1, [.int 0, .int nv, .int nr, .int ng, .int nd, .int nc, g6, g7, g8, g9, .int pr, g11, g12, g13, g14, g15, g16]))] sz) [(h0, .inr (11, [.ref a0, .ref a1, .ref a2, .ref a3, .int sl, f5, f6, f7, f8, f9, f10])), (a2, .inr (1, [.int 0, .int nv, .int nr, .int ng, .int nd, .int nc, g6, g7, g8, g9, .int pr, g11, g12, g13, g14, g15, g16]))]) (va_A [(h0, .inr (11, [.ref a0, .ref a1, .ref a2, .ref a3, .int sl, f5, f6, f7, f8, f9, f10])), (a2, .inr (1, [.int 0, .int nv, .int nr, .int ng, .int nd, .int nc, g6, g7, g8, g9, .int pr, g11, g12, g13, g14, g15, g16]))] sz)) 1 6 (va_A [(h0, .inr (11, [.ref a0, .ref a1, .ref a2, .ref a3, .int sl, f5, f6, f7, f8, f9, f10])), (a2, .inr (1, [.int 0, .int nv, .int nr, .int ng, .int nd, .int nc, g6, g7, g8, g9, .int pr, g11, g12, g13, g14, g15, g16]))] sz) := by
  refine vx_ofW (cc := cX11_counted) (maxL := 3) (ret := (some .int)) (by decide) rfl ?_
  intro p e s m args below meth c s₁ B hml htab hv
  obtain ⟨rfl, hsz, hP, hK, hD0, hU, hN, hngX11_161⟩ := hv
  have hx := B.exec
  have hb := B.bytes
  have hr := B.returns
  have hts := atoms_spec (ws := wsFX11_counted) B.pre
  have hown : s.vm.findClass RX11 = some m.cls := findClass_of_methodNamed B.named
  have hlocks := B.notSynchronized
  subst hsz
  have hD := hD0.self (sz := s.heap.size)
  generalize hAe : va_A [(h0, .inr (11, [.ref a0, .ref a1, .ref a2, .ref a3, .int sl, f5, f6, f7, f8, f9, f10])), (a2, .inr (1, [.int 0, .int nv, .int nr, .int ng, .int nd, .int nc, g6, g7, g8, g9, .int pr, g11, g12, g13, g14, g15, g16]))] s.heap.size = A at hD hU hN ⊢
  have hA : ∀ q : Nat, s.heap.size ≤ q → A q := fun q h => by rw [← hAe]; exact Or.inr h
  have hS : va_S A s.heap s.heap [] := va_S.rf
  have hP : va_P (dC, dI) vwCl [(h0, .inr (11, [.ref a0, .ref a1, .ref a2, .ref a3, .int sl, f5, f6, f7, f8, f9, f10])), (a2, .inr (1, [.int 0, .int nv, .int nr, .int ng, .int nd, .int nc, g6, g7, g8, g9, .int pr, g11, g12, g13, g14, g15, g16]))] s.heap := hP
  have hl := lv_entry ([.ref h0, .int ck, .int cv]) (n := 3) (Nat.le_of_ble_eq_true rfl)
  rw [lg_entry_eq]
  generalize (lg_sl ([.ref h0, .int ck, .int cv]) ++ List.replicate (3 - (lg_sl ([.ref h0, .int ck, .int cv])).length) Slot.unset).toArray = ls at hl ⊢
  have hl : lv_has ls 3 [(0, .ref h0), (1, .int ck), (2, .int cv)] := hl
  refine lv_aload_n hx hb dX11_counted_0 rfl (lv_at hl 0 rfl) ?_
  have hPc := hP.sub (ws' := [(h0, .inr (11, [.ref a0, .ref a1, .ref a2, .ref a3, .int sl, f5, f6, f7, f8, f9, f10])), (a2, .inr (1, [.int 0, .int nv, .int nr, .int ng, .int nd, .int nc, g6, g7, g8, g9, .int pr, g11, g12, g13, g14, g15, g16]))]) [0, 1] rfl
  have hDc := hD.sub (ws' := [(h0, .inr (11, [.ref a0, .ref a1, .ref a2, .ref a3, .int sl, f5, f6, f7, f8, f9, f10])), (a2, .inr (1, [.int 0, .int nv, .int nr, .int ng, .int nd, .int nc, g6, g7, g8, g9, .int pr, g11, g12, g13, g14, g15, g16]))]) [0, 1] (by decide) rfl
  have hKc := hK.sub (tys' := []) [] rfl
  have hFc := va_free (wc := [(h0, .inr (11, [.ref a0, .ref a1, .ref a2, .ref a3, .int sl, f5, f6, f7, f8, f9, f10])), (a2, .inr (1, [.int 0, .int nv, .int nr, .int ng, .int nd, .int nc, g6, g7, g8, g9, .int pr, g11, g12, g13, g14, g15, g16]))]) hD hS hA [0, 1] rfl
  refine vx_callv (vx_runV (As := []) (rest := []) ⟨hx, hb, hml, hown, hts⟩ (x_X11_needModel l hst dC dI h0 a0 a1 a2 a3 sl f5 f6 f7 f8 f9 f10 0 nv nr ng nd nc g6 g7 g8 g9 pr g11 g12 g13 g14 g15 g16 s.heap.size) (cwV 0 hts gFX11_counted rfl rfl rfl (by decide +kernel) ⟨by decide +kernel, by decide +kernel⟩) ⟨fun a U g mk q => by obtain ⟨q0, q1, qP, qK, qD, qU, qN, qngX11_161⟩ := q; exact ⟨q0, q1, qP, va_K.moved (u := U) (U := U.calling g mk a) (Vm.Alike.refl U.vm) qK, qD, vx_Zq.moved (u := U) (U := U.calling g mk a) (Vm.Alike.refl U.vm) qU, vx_Zq.moved (u := U) (U := U.calling g mk a) (Vm.Alike.refl U.vm) qN, fun w h => va_Nw.same (u := U) (U := U.calling g mk a) (ngX11_161_ot w h) rfl (qngX11_161 w h)⟩, va_recv hKc hPc (ci := 11) (q0 := 0) rfl rfl, fun U hU9 hW => ⟨rfl, by rw [hU9], by rw [hU9]; exact hPc, va_K.moved hW.alike hKc, hDc.weaken (fun _ _ _ _ => trivial), by rw [hU9]; exact ((hU.kept (fun a h1 h2 => hS.2.1 a h1 h2)).narrow hFc).moved hW.alike, by rw [hU9]; exact ((hN.kept (fun a h1 h2 => hS.2.1 a h1 h2)).narrow hFc).moved hW.alike, fun w h => cd_warm (ngX11_161_cd w h) hW (hngX11_161 w h)⟩⟩ rfl rfl hl.1 rfl (lv_room (Nat.le_of_ble_eq_true rfl)) dX11_counted_1 ⟨by decide +kernel, by decide +kernel⟩) hS (fun q _ h => hFc q h) hFc (fun q _ h => hFc q h) (fun E ce q9 u t H1 locs1 ht hvm hw hB hz1 hk1 hS hc1 hc2 hc3 => ?_) (fun u t H1 locs1 ht hvm hw hB hz1 hk1 hS => absurd rfl hw)
  obtain ⟨hE, hP1, hK1, hD1⟩ := hB
  subst hE
  rw [ht] at hP1
  have hK1 := va_K.moved hvm.symm hK1
  obtain ⟨hP, hD⟩ := va_join (wr := []) (w1 := [(h0, .inr (11, [.ref a0, .ref a1, .ref a2, .ref a3, .int sl, f5, f6, f7, f8, f9, f10])), (a2, .inr (1, [.int 0, .int nv, .int nr, .int ng, .int nd, .int nc, g6, g7, g8, g9, .int pr, g11, g12, g13, g14, g15, g16]))]) hP hD [0, 1] [] rfl rfl (by decide) (by decide) hk1 hFc hP1 hD1
  have hP := hP.sub (ws' := [(h0, .inr (11, [.ref a0, .ref a1, .ref a2, .ref a3, .int sl, f5, f6, f7, f8, f9, f10])), (a2, .inr (1, [.int 0, .int nv, .int nr, .int ng, .int nd, .int nc, g6, g7, g8, g9, .int pr, g11, g12, g13, g14, g15, g16]))]) [0, 1] rfl
  have hD := hD.sub (ws' := [(h0, .inr (11, [.ref a0, .ref a1, .ref a2, .ref a3, .int sl, f5, f6, f7, f8, f9, f10])), (a2, .inr (1, [.int 0, .int nv, .int nr, .int ng, .int nd, .int nc, g6, g7, g8, g9, .int pr, g11, g12, g13, g14, g15, g16]))]) [0, 1] (by decide) rfl
  exact vx_out (fun x hx9 => (htab x hx9).elim) hlocks hc1 hc2 hc3 (fun t ht hvm => ⟨_, ⟨hw.1, trivial⟩, ⟨rfl, by rw [ht]; exact hP, va_K.moved hvm hK, hD⟩, hS.F ht⟩) hS.2.2 (by decide +kernel) (by decide +kernel)
def wsFX11_prove : List Cond := .code yX11_prove cX11_prove 1 (some .int) :: wsV RX11 135 RX11 yX11_needModel wsX11_needModel
theorem gFX11_prove : GoodIn wsFX11_prove (wsV RX11 135 RX11 yX11_needModel wsX11_needModel) := goodIn_sub (fun _ h => List.mem_cons_of_mem _ h) (by decide +kernel)
theorem dX11_prove_0 : decode cX11_prove 0 = .ok (.aload_n 0, 1) := by decide +kernel
theorem dX11_prove_1 : decode cX11_prove 1 = .ok (.invokevirtual 135, 3) := by decide +kernel
set_option maxHeartbeats 4000000 in
set_option maxRecDepth 100000 in
/-- without a model it throws -/
theorem x_X11_prove (l : Launch) (hst : l.stackTraces = false) (dC : Nat → ClassId) (dI : Nat → Nat → Nat) (h0 : Nat) (a0 a1 a2 a3 : Nat) (sl : Int32) (f5 f6 f7 f8 f9 f10 : Value) (nv nr ng nd nc : Int32) (g6 g7 g8 g9 : Value) (pr : Int32) (g11 g12 g13 g14 g15 g16 : Value)  (sz : Nat) : vx_Met l yX11_prove wsFX11_prove ({ frames := 7, cells := 1, slots := 6, locals := 101 }) (va_Pc [.ref h0] (fun U => U.heap.size = sz ∧ va_P (dC, dI) vwCl [(h0, .inr (11, [.ref a0, .ref a1, .ref a2, .ref a3, .int sl, f5, f6, f7, f8, f9, f10])), (a2, .inr (1, [.int 0, .int nv, .int nr, .int ng, .int nd, .int nc, g6, g7, g8, g9, .int pr, g11, g12, g13, g14, g15, g16]))] U.heap ∧ va_K (dC, dI) vwCl [] U ∧ va_D (fun _ => True) [(h0, .inr (11, [.ref a0, .ref a1, .ref a2, .ref a3, .int sl, f5, f6, f7, f8, f9, f10])), (a2, .inr (1, [.int 0, .int nv, .int nr, .int ng, .int nd, .int nc, g6, g7, g8, g9, .int pr, g11, g12, g13, g14, g15, g16]))] ∧ vx_Zq Bundle.tN "UNASSIGNED_STACK" Bundle.steD (va_A [(h0, .inr (11, [.ref a0, .ref a1, .ref a2, .ref a3, .int sl, f5, f6, f7, f8, f9, f10])), (a2, .inr (1, [.int 0, .int nv, .int nr, .int ng, .int nd, .int nc, g6, g7, g8, g9, .int pr, g11, g12, g13, g14, g15, g16]))] sz) U U.heap ∧ vx_Zq Bundle.tN "SUPPRESSED_SENTINEL" Bundle.listD (va_A [(h0, .inr (11, [.ref a0, .ref a1, .ref a2, .ref a3, .int sl, f5, f6, f7, f8, f9, f10])), (a2, .inr (1, [.int 0, .int nv, .int nr, .int ng, .int nd, .int nc, g6, g7, g8, g9, .int pr, g11, g12, g13, g14, g15, g16]))] sz) U U.heap ∧ (∀ w ∈ ngX11_161, va_Nw w U))) (va_Qi (fun (r : Int32) (_ : Unit) => False) (fun _ t => va_P (dC, dI) vwCl [(h0, .inr (11, [.ref a0, .ref a1, .ref a2, .ref a3, .int sl, f5, f6, f7, f8, f9, f10])), (a2, .inr (1, [.int 0, .int nv, .int nr, .int ng, .int nd, .int nc, g6, g7, g8, g9, .int pr, g11, g12, g13, g14, g15, g16]))] t.heap ∧ va_K (dC, dI) vwCl [] t ∧ va_D (va_A [(h0, .inr (11, [.ref a0, .ref a1, .ref a2, .ref a3, .int sl, f5, f6, f7, f8, f9, f10])), (a2, .inr (1, [.int 0, .int nv, .int nr, .int ng, .int nd, .int nc, g6, g7, g8, g9, .int pr, g11, g12, g13, g14, g15, g16]))] sz) [(h0, .inr (11, [.ref a0, .ref a1, .ref a2, .ref a3, .int sl, f5, f6, f7, f8, f9, f10])), (a2, .inr (1, [.int 0, .int nv, .int nr, .int ng, .int nd, .int nc, g6, g7, g8, g9, .int pr, g11, g12, g13, g14, g15, g16]))]) (va_A [(h0, .inr (11, [.ref a0, .ref a1, .ref a2, .ref a3, .int sl, f5, f6, f7, f8, f9, f10])), (a2, .inr (1, [.int 0, .int nv, .int nr, .int ng, .int nd, .int nc, g6, g7, g8, g9, .int pr, g11, g12, g13, g14, g15, g16]))] sz)) (vx_X (fun n : String => (n = "java/lang/IllegalStateException" ∧ (True))) (fun E n t => E = n ∧ va_P (dC, dI) vwCl [(h0, .inr (11, [.ref a0, .ref a1, .ref a2, .ref a3, .int sl, f5, f6, f7, f8, f9, f10])), (a2, .inr (1, [.int 0, .int nv, .int nr, .int ng, .int nd, .int nc, g6, g7, g8, g9, .int pr, g11, g12, g13, g14, g15, g16]))] t.heap ∧ va_K (dC, dI) vwCl [] t ∧ va_D (va_A [(h0, .inr (11, [.ref a0, .ref a1, .ref a2, .ref a3, .int sl, f5, f6, f7, f8, f9, f10])), (a2, .inr (1, [.int 0, .int nv, .int nr, .int ng, .int nd, .int nc, g6, g7, g8, g9, .int pr, g11, g12, g13, g14, g15, g16]))] sz) [(h0, .inr (11, [.ref a0, .ref a1, .ref a2, .ref a3, .int sl, f5, f6, f7, f8, f9, f10])), (a2, .inr (1, [.int 0, .int nv, .int nr, .int ng, .int nd, .int nc, g6, g7, g8, g9, .int pr, g11, g12, g13, g14, g15, g16]))]) (va_A [(h0, .inr (11, [.ref a0, .ref a1, .ref a2, .ref a3, .int sl, f5, f6, f7, f8, f9, f10])), (a2, .inr (1, [.int 0, .int nv, .int nr, .int ng, .int nd, .int nc, g6, g7, g8, g9, .int pr, g11, g12, g13, g14, g15, g16]))] sz)) 1 6 (va_A [(h0, .inr (11, [.ref a0, .ref a1, .ref a2, .ref a3, .int sl, f5, f6, f7, f8, f9, f10])), (a2, .inr (1, [.int 0, .int nv, .int nr, .int ng, .int nd, .int nc, g6, g7, g8, g9, .int pr, g11, g12, g13, g14, g15, g16]))] sz) := by
  refine vx_ofW (cc := cX11_prove) (maxL := 1) (ret := (some .int)) (by decide) rfl ?_
  intro p e s m args below meth c s₁ B hml htab hv
  obtain ⟨rfl, hsz, hP, hK, hD0, hU, hN, hngX11_161⟩ := hv
  have hx := B.exec
  have hb := B.bytes
  have hr := B.returns
  have hts := atoms_spec (ws := wsFX11_prove) B.pre
  have hown : s.vm.findClass RX11 = some m.cls := findClass_of_methodNamed B.named
  have hlocks := B.notSynchronized
  subst hsz
  have hD := hD0.self (sz := s.heap.size)
  generalize hAe : va_A [(h0, .inr (11, [.ref a0, .ref a1, .ref a2, .ref a3, .int sl, f5, f6, f7, f8, f9, f10])), (a2, .inr (1, [.int 0, .int nv, .int nr, .int ng, .int nd, .int nc, g6, g7, g8, g9, .int pr, g11, g12, g13, g14, g15, g16]))] s.heap.size = A at hD hU hN ⊢
  have hA : ∀ q : Nat, s.heap.size ≤ q → A q := fun q h => by rw [← hAe]; exact Or.inr h
  have hS : va_S A s.heap s.heap [] := va_S.rf
  have hP : va_P (dC, dI) vwCl [(h0, .inr (11, [.ref a0, .ref a1, .ref a2, .ref a3, .int sl, f5, f6, f7, f8, f9, f10])), (a2, .inr (1, [.int 0, .int nv, .int nr, .int ng, .int nd, .int nc, g6, g7, g8, g9, .int pr, g11, g12, g13, g14, g15, g16]))] s.heap := hP
  have hl := lv_entry ([.ref h0]) (n := 1) (Nat.le_of_ble_eq_true rfl)
  rw [lg_entry_eq]
  generalize (lg_sl ([.ref h0]) ++ List.replicate (1 - (lg_sl ([.ref h0])).length) Slot.unset).toArray = ls at hl ⊢
  have hl : lv_has ls 1 [(0, .ref h0)] := hl
  refine lv_aload_n hx hb dX11_prove_0 rfl (lv_at hl 0 rfl) ?_
  have hPc := hP.sub (ws' := [(h0, .inr (11, [.ref a0, .ref a1, .ref a2, .ref a3, .int sl, f5, f6, f7, f8, f9, f10])), (a2, .inr (1, [.int 0, .int nv, .int nr, .int ng, .int nd, .int nc, g6, g7, g8, g9, .int pr, g11, g12, g13, g14, g15, g16]))]) [0, 1] rfl
  have hDc := hD.sub (ws' := [(h0, .inr (11, [.ref a0, .ref a1, .ref a2, .ref a3, .int sl, f5, f6, f7, f8, f9, f10])), (a2, .inr (1, [.int 0, .int nv, .int nr, .int ng, .int nd, .int nc, g6, g7, g8, g9, .int pr, g11, g12, g13, g14, g15, g16]))]) [0, 1] (by decide) rfl
  have hKc := hK.sub (tys' := []) [] rfl
  have hFc := va_free (wc := [(h0, .inr (11, [.ref a0, .ref a1, .ref a2, .ref a3, .int sl, f5, f6, f7, f8, f9, f10])), (a2, .inr (1, [.int 0, .int nv, .int nr, .int ng, .int nd, .int nc, g6, g7, g8, g9, .int pr, g11, g12, g13, g14, g15, g16]))]) hD hS hA [0, 1] rfl
  refine vx_callv (vx_runV (As := []) (rest := []) ⟨hx, hb, hml, hown, hts⟩ (x_X11_needModel l hst dC dI h0 a0 a1 a2 a3 sl f5 f6 f7 f8 f9 f10 0 nv nr ng nd nc g6 g7 g8 g9 pr g11 g12 g13 g14 g15 g16 s.heap.size) (cwV 0 hts gFX11_prove rfl rfl rfl (by decide +kernel) ⟨by decide +kernel, by decide +kernel⟩) ⟨fun a U g mk q => by obtain ⟨q0, q1, qP, qK, qD, qU, qN, qngX11_161⟩ := q; exact ⟨q0, q1, qP, va_K.moved (u := U) (U := U.calling g mk a) (Vm.Alike.refl U.vm) qK, qD, vx_Zq.moved (u := U) (U := U.calling g mk a) (Vm.Alike.refl U.vm) qU, vx_Zq.moved (u := U) (U := U.calling g mk a) (Vm.Alike.refl U.vm) qN, fun w h => va_Nw.same (u := U) (U := U.calling g mk a) (ngX11_161_ot w h) rfl (qngX11_161 w h)⟩, va_recv hKc hPc (ci := 11) (q0 := 0) rfl rfl, fun U hU9 hW => ⟨rfl, by rw [hU9], by rw [hU9]; exact hPc, va_K.moved hW.alike hKc, hDc.weaken (fun _ _ _ _ => trivial), by rw [hU9]; exact ((hU.kept (fun a h1 h2 => hS.2.1 a h1 h2)).narrow hFc).moved hW.alike, by rw [hU9]; exact ((hN.kept (fun a h1 h2 => hS.2.1 a h1 h2)).narrow hFc).moved hW.alike, fun w h => cd_warm (ngX11_161_cd w h) hW (hngX11_161 w h)⟩⟩ rfl rfl hl.1 rfl (lv_room (Nat.le_of_ble_eq_true rfl)) dX11_prove_1 ⟨by decide +kernel, by decide +kernel⟩) hS (fun q _ h => hFc q h) hFc (fun q _ h => hFc q h) (fun E ce q9 u t H1 locs1 ht hvm hw hB hz1 hk1 hS hc1 hc2 hc3 => ?_) (fun u t H1 locs1 ht hvm hw hB hz1 hk1 hS => absurd rfl hw)
  obtain ⟨hE, hP1, hK1, hD1⟩ := hB
  subst hE
  rw [ht] at hP1
  have hK1 := va_K.moved hvm.symm hK1
  obtain ⟨hP, hD⟩ := va_join (wr := []) (w1 := [(h0, .inr (11, [.ref a0, .ref a1, .ref a2, .ref a3, .int sl, f5, f6, f7, f8, f9, f10])), (a2, .inr (1, [.int 0, .int nv, .int nr, .int ng, .int nd, .int nc, g6, g7, g8, g9, .int pr, g11, g12, g13, g14, g15, g16]))]) hP hD [0, 1] [] rfl rfl (by decide) (by decide) hk1 hFc hP1 hD1
  have hP := hP.sub (ws' := [(h0, .inr (11, [.ref a0, .ref a1, .ref a2, .ref a3, .int sl, f5, f6, f7, f8, f9, f10])), (a2, .inr (1, [.int 0, .int nv, .int nr, .int ng, .int nd, .int nc, g6, g7, g8, g9, .int pr, g11, g12, g13, g14, g15, g16]))]) [0, 1] rfl
  have hD := hD.sub (ws' := [(h0, .inr (11, [.ref a0, .ref a1, .ref a2, .ref a3, .int sl, f5, f6, f7, f8, f9, f10])), (a2, .inr (1, [.int 0, .int nv, .int nr, .int ng, .int nd, .int nc, g6, g7, g8, g9, .int pr, g11, g12, g13, g14, g15, g16]))]) [0, 1] (by decide) rfl
  exact vx_out (fun x hx9 => (htab x hx9).elim) hlocks hc1 hc2 hc3 (fun t ht hvm => ⟨_, ⟨hw.1, trivial⟩, ⟨rfl, by rw [ht]; exact hP, va_K.moved hvm hK, hD⟩, hS.F ht⟩) hS.2.2 (by decide +kernel) (by decide +kernel)
end
section
def wsFL_write : List Cond := .codeWith yL_write cL_write 3 (some .int) [(0, 8, 11, 32)] :: (.classLink RL 32 "java/lang/IllegalStateException" :: wsV RL 29 RX11 yX11_write wsFX11_write)
theorem gFL_write : GoodIn wsFL_write (wsV RL 29 RX11 yX11_write wsFX11_write) := goodIn_sub (fun _ h => List.mem_cons_of_mem _ (List.mem_cons_of_mem _ h)) (by decide +kernel)
theorem dL_write_0 : decode cL_write 0 = .ok (.aload_n 1, 1) := by decide +kernel
theorem dL_write_1 : decode cL_write 1 = .ok (.iconst 0, 1) := by decide +kernel
theorem dL_write_2 : decode cL_write 2 = .ok (.aload_n 0, 1) := by decide +kernel
theorem dL_write_3 : decode cL_write 3 = .ok (.invokevirtual 29, 3) := by decide +kernel
theorem dL_write_11 : decode cL_write 11 = .ok (.astore_n 2, 1) := by decide +kernel
theorem dL_write_12 : decode cL_write 12 = .ok (.iconst 1, 1) := by decide +kernel
theorem dL_write_13 : decode cL_write 13 = .ok (.ireturn, 1) := by decide +kernel
set_option maxHeartbeats 4000000 in
set_option maxRecDepth 100000 in
/-- on a fresh object: caught -/
theorem x_L_write (l : Launch) (hst : l.stackTraces = false) (dC : Nat → ClassId) (dI : Nat → Nat → Nat) (h0 o : Nat) (a0 a1 a2 a3 : Nat) (sl : Int32) (f5 f6 f7 f8 f9 f10 : Value) (nv nr ng nd nc : Int32) (g6 g7 g8 g9 : Value) (pr : Int32) (g11 g12 g13 g14 g15 g16 : Value)  (sz : Nat) : vx_Met l yL_write wsFL_write ({ frames := 8, cells := 1, slots := 6, locals := 122 }) (va_Pc [.ref h0, .ref o] (fun U => U.heap.size = sz ∧ va_P (dC, dI) vwCl [(h0, .inr (11, [.ref a0, .ref a1, .ref a2, .ref a3, .int sl, f5, f6, f7, f8, f9, f10])), (a2, .inr (1, [.int 0, .int nv, .int nr, .int ng, .int nd, .int nc, g6, g7, g8, g9, .int pr, g11, g12, g13, g14, g15, g16]))] U.heap ∧ va_K (dC, dI) vwCl [] U ∧ va_D (fun _ => True) [(h0, .inr (11, [.ref a0, .ref a1, .ref a2, .ref a3, .int sl, f5, f6, f7, f8, f9, f10])), (a2, .inr (1, [.int 0, .int nv, .int nr, .int ng, .int nd, .int nc, g6, g7, g8, g9, .int pr, g11, g12, g13, g14, g15, g16]))] ∧ vx_Zq Bundle.tN "UNASSIGNED_STACK" Bundle.steD (va_A [(h0, .inr (11, [.ref a0, .ref a1, .ref a2, .ref a3, .int sl, f5, f6, f7, f8, f9, f10])), (a2, .inr (1, [.int 0, .int nv, .int nr, .int ng, .int nd, .int nc, g6, g7, g8, g9, .int pr, g11, g12, g13, g14, g15, g16]))] sz) U U.heap ∧ vx_Zq Bundle.tN "SUPPRESSED_SENTINEL" Bundle.listD (va_A [(h0, .inr (11, [.ref a0, .ref a1, .ref a2, .ref a3, .int sl, f5, f6, f7, f8, f9, f10])), (a2, .inr (1, [.int 0, .int nv, .int nr, .int ng, .int nd, .int nc, g6, g7, g8, g9, .int pr, g11, g12, g13, g14, g15, g16]))] sz) U U.heap ∧ (∀ w ∈ ngX11_161, va_Nw w U))) (va_Qi (fun (r : Int32) (_ : Unit) => r = 1) (fun _ t => va_P (dC, dI) vwCl [(h0, .inr (11, [.ref a0, .ref a1, .ref a2, .ref a3, .int sl, f5, f6, f7, f8, f9, f10])), (a2, .inr (1, [.int 0, .int nv, .int nr, .int ng, .int nd, .int nc, g6, g7, g8, g9, .int pr, g11, g12, g13, g14, g15, g16]))] t.heap ∧ va_K (dC, dI) vwCl [] t ∧ va_D (va_A [(h0, .inr (11, [.ref a0, .ref a1, .ref a2, .ref a3, .int sl, f5, f6, f7, f8, f9, f10])), (a2, .inr (1, [.int 0, .int nv, .int nr, .int ng, .int nd, .int nc, g6, g7, g8, g9, .int pr, g11, g12, g13, g14, g15, g16]))] sz) [(h0, .inr (11, [.ref a0, .ref a1, .ref a2, .ref a3, .int sl, f5, f6, f7, f8, f9, f10])), (a2, .inr (1, [.int 0, .int nv, .int nr, .int ng, .int nd, .int nc, g6, g7, g8, g9, .int pr, g11, g12, g13, g14, g15, g16]))]) (va_A [(h0, .inr (11, [.ref a0, .ref a1, .ref a2, .ref a3, .int sl, f5, f6, f7, f8, f9, f10])), (a2, .inr (1, [.int 0, .int nv, .int nr, .int ng, .int nd, .int nc, g6, g7, g8, g9, .int pr, g11, g12, g13, g14, g15, g16]))] sz)) (vx_X (fun n : String => (n = "java/lang/IllegalStateException" ∧ (False))) (fun E n t => E = n ∧ va_P (dC, dI) vwCl [(h0, .inr (11, [.ref a0, .ref a1, .ref a2, .ref a3, .int sl, f5, f6, f7, f8, f9, f10])), (a2, .inr (1, [.int 0, .int nv, .int nr, .int ng, .int nd, .int nc, g6, g7, g8, g9, .int pr, g11, g12, g13, g14, g15, g16]))] t.heap ∧ va_K (dC, dI) vwCl [] t ∧ va_D (va_A [(h0, .inr (11, [.ref a0, .ref a1, .ref a2, .ref a3, .int sl, f5, f6, f7, f8, f9, f10])), (a2, .inr (1, [.int 0, .int nv, .int nr, .int ng, .int nd, .int nc, g6, g7, g8, g9, .int pr, g11, g12, g13, g14, g15, g16]))] sz) [(h0, .inr (11, [.ref a0, .ref a1, .ref a2, .ref a3, .int sl, f5, f6, f7, f8, f9, f10])), (a2, .inr (1, [.int 0, .int nv, .int nr, .int ng, .int nd, .int nc, g6, g7, g8, g9, .int pr, g11, g12, g13, g14, g15, g16]))]) (va_A [(h0, .inr (11, [.ref a0, .ref a1, .ref a2, .ref a3, .int sl, f5, f6, f7, f8, f9, f10])), (a2, .inr (1, [.int 0, .int nv, .int nr, .int ng, .int nd, .int nc, g6, g7, g8, g9, .int pr, g11, g12, g13, g14, g15, g16]))] sz)) 1 6 (va_A [(h0, .inr (11, [.ref a0, .ref a1, .ref a2, .ref a3, .int sl, f5, f6, f7, f8, f9, f10])), (a2, .inr (1, [.int 0, .int nv, .int nr, .int ng, .int nd, .int nc, g6, g7, g8, g9, .int pr, g11, g12, g13, g14, g15, g16]))] sz) := by
  refine vx_ofWH (hh := [(0, 8, 11, 32)]) (cc := cL_write) (maxL := 3) (ret := (some .int)) (by decide) rfl ?_
  intro p e s m args below meth c s₁ B hml hv
  obtain ⟨rfl, hsz, hP, hK, hD0, hU, hN, hngX11_161⟩ := hv
  have hx := B.exec
  have hb := B.bytes
  have hr := B.returns
  have hts := atoms_spec (ws := wsFL_write) B.pre
  have hown : s.vm.findClass RL = some m.cls := findClass_of_methodNamed B.named
  have hlocks := B.notSynchronized
  have htb : c.exceptionTable.toList = tableOf [(0, 8, 11, 32)] := vx_table (x := yL_write) B (hts _ List.mem_cons_self)
  subst hsz
  have hD := hD0.self (sz := s.heap.size)
  generalize hAe : va_A [(h0, .inr (11, [.ref a0, .ref a1, .ref a2, .ref a3, .int sl, f5, f6, f7, f8, f9, f10])), (a2, .inr (1, [.int 0, .int nv, .int nr, .int ng, .int nd, .int nc, g6, g7, g8, g9, .int pr, g11, g12, g13, g14, g15, g16]))] s.heap.size = A at hD hU hN ⊢
  have hA : ∀ q : Nat, s.heap.size ≤ q → A q := fun q h => by rw [← hAe]; exact Or.inr h
  have hS : va_S A s.heap s.heap [] := va_S.rf
  have hP : va_P (dC, dI) vwCl [(h0, .inr (11, [.ref a0, .ref a1, .ref a2, .ref a3, .int sl, f5, f6, f7, f8, f9, f10])), (a2, .inr (1, [.int 0, .int nv, .int nr, .int ng, .int nd, .int nc, g6, g7, g8, g9, .int pr, g11, g12, g13, g14, g15, g16]))] s.heap := hP
  have hl := lv_entry ([.ref h0, .ref o]) (n := 3) (Nat.le_of_ble_eq_true rfl)
  rw [lg_entry_eq]
  generalize (lg_sl ([.ref h0, .ref o]) ++ List.replicate (3 - (lg_sl ([.ref h0, .ref o])).length) Slot.unset).toArray = ls at hl ⊢
  have hl : lv_has ls 3 [(0, .ref h0), (1, .ref o)] := hl
  refine lv_aload_n hx hb dL_write_0 rfl (lv_at hl 1 rfl) ?_
  refine lv_iconst (v := 0) hx hb dL_write_1 (by decide) ?_
  refine lv_aload_n hx hb dL_write_2 rfl (lv_at hl 0 rfl) ?_
  have hPc := hP.sub (ws' := [(h0, .inr (11, [.ref a0, .ref a1, .ref a2, .ref a3, .int sl, f5, f6, f7, f8, f9, f10])), (a2, .inr (1, [.int 0, .int nv, .int nr, .int ng, .int nd, .int nc, g6, g7, g8, g9, .int pr, g11, g12, g13, g14, g15, g16]))]) [0, 1] rfl
  have hDc := hD.sub (ws' := [(h0, .inr (11, [.ref a0, .ref a1, .ref a2, .ref a3, .int sl, f5, f6, f7, f8, f9, f10])), (a2, .inr (1, [.int 0, .int nv, .int nr, .int ng, .int nd, .int nc, g6, g7, g8, g9, .int pr, g11, g12, g13, g14, g15, g16]))]) [0, 1] (by decide) rfl
  have hKc := hK.sub (tys' := []) [] rfl
  have hFc := va_free (wc := [(h0, .inr (11, [.ref a0, .ref a1, .ref a2, .ref a3, .int sl, f5, f6, f7, f8, f9, f10])), (a2, .inr (1, [.int 0, .int nv, .int nr, .int ng, .int nd, .int nc, g6, g7, g8, g9, .int pr, g11, g12, g13, g14, g15, g16]))]) hD hS hA [0, 1] rfl
  refine vx_calli (vx_runV (As := []) (rest := [.int 0, .ref o]) ⟨hx, hb, hml, hown, hts⟩ (x_X11_write l hst dC dI h0 a0 a1 a2 a3 sl f5 f6 f7 f8 f9 f10 nv nr ng nd nc g6 g7 g8 g9 pr g11 g12 g13 g14 g15 g16 s.heap.size) (cwV 0 hts gFL_write rfl rfl rfl (by decide +kernel) ⟨by decide +kernel, by decide +kernel⟩) ⟨fun a U g mk q => by obtain ⟨q0, q1, qP, qK, qD, qU, qN, qngX11_161⟩ := q; exact ⟨q0, q1, qP, va_K.moved (u := U) (U := U.calling g mk a) (Vm.Alike.refl U.vm) qK, qD, vx_Zq.moved (u := U) (U := U.calling g mk a) (Vm.Alike.refl U.vm) qU, vx_Zq.moved (u := U) (U := U.calling g mk a) (Vm.Alike.refl U.vm) qN, fun w h => va_Nw.same (u := U) (U := U.calling g mk a) (ngX11_161_ot w h) rfl (qngX11_161 w h)⟩, va_recv hKc hPc (ci := 11) (q0 := 0) rfl rfl, fun U hU9 hW => ⟨rfl, by rw [hU9], by rw [hU9]; exact hPc, va_K.moved hW.alike hKc, hDc.weaken (fun _ _ _ _ => trivial), by rw [hU9]; exact ((hU.kept (fun a h1 h2 => hS.2.1 a h1 h2)).narrow hFc).moved hW.alike, by rw [hU9]; exact ((hN.kept (fun a h1 h2 => hS.2.1 a h1 h2)).narrow hFc).moved hW.alike, fun w h => cd_warm (ngX11_161_cd w h) hW (hngX11_161 w h)⟩⟩ rfl rfl hl.1 rfl (lv_room (Nat.le_of_ble_eq_true rfl)) dL_write_3 ⟨by decide +kernel, by decide +kernel⟩) hS (fun q _ h => hFc q h) hFc (fun q _ h => hFc q h) (fun E ce q9 u t H1 locs1 ht hvm hw hB hz1 hk1 hS hc1 hc2 hc3 => ?_) (fun r u t H1 locs1 ht hvm hw hB hz1 hk1 hS => hw.elim)
  obtain ⟨hE, hP1, hK1, hD1⟩ := hB
  subst hE
  rw [ht] at hP1
  have hK1 := va_K.moved hvm.symm hK1
  obtain ⟨hP, hD⟩ := va_join (wr := []) (w1 := [(h0, .inr (11, [.ref a0, .ref a1, .ref a2, .ref a3, .int sl, f5, f6, f7, f8, f9, f10])), (a2, .inr (1, [.int 0, .int nv, .int nr, .int ng, .int nd, .int nc, g6, g7, g8, g9, .int pr, g11, g12, g13, g14, g15, g16]))]) hP hD [0, 1] [] rfl rfl (by decide) (by decide) hk1 hFc hP1 hD1
  have hP := hP.sub (ws' := [(h0, .inr (11, [.ref a0, .ref a1, .ref a2, .ref a3, .int sl, f5, f6, f7, f8, f9, f10])), (a2, .inr (1, [.int 0, .int nv, .int nr, .int ng, .int nd, .int nc, g6, g7, g8, g9, .int pr, g11, g12, g13, g14, g15, g16]))]) [0, 1] rfl
  have hD := hD.sub (ws' := [(h0, .inr (11, [.ref a0, .ref a1, .ref a2, .ref a3, .int sl, f5, f6, f7, f8, f9, f10])), (a2, .inr (1, [.int 0, .int nv, .int nr, .int ng, .int nd, .int nc, g6, g7, g8, g9, .int pr, g11, g12, g13, g14, g15, g16]))]) [0, 1] (by decide) rfl
  refine vx_widen (k := 1) (n := 6) (by decide +kernel) (by decide +kernel) ?_
  obtain ⟨rfl, -⟩ := hw
  refine vx_catch (own := RL) (name := "java/lang/IllegalStateException") hown [] ⟨0, 8, 11, 32⟩ [] (by rw [htb]; rfl) (fun z hz => absurd hz List.not_mem_nil) (by decide) (by decide) (hts (.classLink RL 32 "java/lang/IllegalStateException") (by decide +kernel)) (va_Nw.use rfl (hngX11_161 (.castable "java/lang/IllegalStateException" "java/lang/IllegalStateException") (by decide +kernel))) hc1 hc2 hc3 ?_
  generalize H1 = H at hP hS hc1 ⊢
  refine lv_astore_n (lv' := [(2, .ref q9), (0, .ref h0), (1, .ref o)]) hx hb dL_write_11 rfl hl (by decide) rfl (fun ls hl => ?_)
  refine lv_iconst (v := 1) hx hb dL_write_12 (by decide) ?_
  refine vx_ret ?_
  refine W.widen (k := 1) (n := 6) (by decide +kernel) (by decide +kernel) ?_
  exact W.iret (v := 1) hx hb hr (fun t ht hW => ⟨⟨1, (), rfl, rfl, by rw [ht]; exact hP, va_K.moved hW.alike hK, hD⟩, hS.F ht⟩) hS.2.2 dL_write_13
def wsFL_solve : List Cond := .codeWith yL_solve cL_solve 4 (some .int) [(0, 16, 19, 32)] :: (.classLink RL 32 "java/lang/IllegalStateException" :: wsV RL 34 RX11 yX11_solve wsFX11_solve)
theorem gFL_solve : GoodIn wsFL_solve (wsV RL 34 RX11 yX11_solve wsFX11_solve) := goodIn_sub (fun _ h => List.mem_cons_of_mem _ (List.mem_cons_of_mem _ h)) (by decide +kernel)
theorem dL_solve_0 : decode cL_solve 0 = .ok (.aload_n 2, 1) := by decide +kernel
theorem dL_solve_1 : decode cL_solve 1 = .ok (.iconst 0, 1) := by decide +kernel
theorem dL_solve_2 : decode cL_solve 2 = .ok (.aload_n 0, 1) := by decide +kernel
theorem dL_solve_3 : decode cL_solve 3 = .ok (.iload_n 1, 1) := by decide +kernel
theorem dL_solve_4 : decode cL_solve 4 = .ok (.invokevirtual 34, 3) := by decide +kernel
theorem dL_solve_19 : decode cL_solve 19 = .ok (.astore_n 3, 1) := by decide +kernel
theorem dL_solve_20 : decode cL_solve 20 = .ok (.iconst 1, 1) := by decide +kernel
theorem dL_solve_21 : decode cL_solve 21 = .ok (.ireturn, 1) := by decide +kernel
set_option maxHeartbeats 4000000 in
set_option maxRecDepth 100000 in
/-- on a fresh object: caught -/
theorem x_L_solve (l : Launch) (hst : l.stackTraces = false) (dC : Nat → ClassId) (dI : Nat → Nat → Nat) (h0 o : Nat) (a0 a1 a2 a3 : Nat) (sl : Int32) (f5 f6 f7 f8 f9 f10 : Value) (nv nr ng nd nc : Int32) (g6 g7 g8 g9 : Value) (pr : Int32) (g11 g12 g13 g14 g15 g16 : Value) (rx : Int32) (sz : Nat) : vx_Met l yL_solve wsFL_solve ({ frames := 8, cells := 1, slots := 6, locals := 122 }) (va_Pc [.ref h0, .int rx, .ref o] (fun U => U.heap.size = sz ∧ va_P (dC, dI) vwCl [(h0, .inr (11, [.ref a0, .ref a1, .ref a2, .ref a3, .int sl, f5, f6, f7, f8, f9, f10])), (a2, .inr (1, [.int 0, .int nv, .int nr, .int ng, .int nd, .int nc, g6, g7, g8, g9, .int pr, g11, g12, g13, g14, g15, g16]))] U.heap ∧ va_K (dC, dI) vwCl [] U ∧ va_D (fun _ => True) [(h0, .inr (11, [.ref a0, .ref a1, .ref a2, .ref a3, .int sl, f5, f6, f7, f8, f9, f10])), (a2, .inr (1, [.int 0, .int nv, .int nr, .int ng, .int nd, .int nc, g6, g7, g8, g9, .int pr, g11, g12, g13, g14, g15, g16]))] ∧ vx_Zq Bundle.tN "UNASSIGNED_STACK" Bundle.steD (va_A [(h0, .inr (11, [.ref a0, .ref a1, .ref a2, .ref a3, .int sl, f5, f6, f7, f8, f9, f10])), (a2, .inr (1, [.int 0, .int nv, .int nr, .int ng, .int nd, .int nc, g6, g7, g8, g9, .int pr, g11, g12, g13, g14, g15, g16]))] sz) U U.heap ∧ vx_Zq Bundle.tN "SUPPRESSED_SENTINEL" Bundle.listD (va_A [(h0, .inr (11, [.ref a0, .ref a1, .ref a2, .ref a3, .int sl, f5, f6, f7, f8, f9, f10])), (a2, .inr (1, [.int 0, .int nv, .int nr, .int ng, .int nd, .int nc, g6, g7, g8, g9, .int pr, g11, g12, g13, g14, g15, g16]))] sz) U U.heap ∧ (∀ w ∈ ngX11_161, va_Nw w U))) (va_Qi (fun (r : Int32) (_ : Unit) => r = 1) (fun _ t => va_P (dC, dI) vwCl [(h0, .inr (11, [.ref a0, .ref a1, .ref a2, .ref a3, .int sl, f5, f6, f7, f8, f9, f10])), (a2, .inr (1, [.int 0, .int nv, .int nr, .int ng, .int nd, .int nc, g6, g7, g8, g9, .int pr, g11, g12, g13, g14, g15, g16]))] t.heap ∧ va_K (dC, dI) vwCl [] t ∧ va_D (va_A [(h0, .inr (11, [.ref a0, .ref a1, .ref a2, .ref a3, .int sl, f5, f6, f7, f8, f9, f10])), (a2, .inr (1, [.int 0, .int nv, .int nr, .int ng, .int nd, .int nc, g6, g7, g8, g9, .int pr, g11, g12, g13, g14, g15, g16]))] sz) [(h0, .inr (11, [.ref a0, .ref a1, .ref a2, .ref a3, .int sl, f5, f6, f7, f8, f9, f10])), (a2, .inr (1, [.int 0, .int nv, .int nr, .int ng, .int nd, .int nc, g6, g7, g8, g9, .int pr, g11, g12, g13, g14, g15, g16]))]) (va_A [(h0, .inr (11, [.ref a0, .ref a1, .ref a2, .ref a3, .int sl, f5, f6, f7, f8, f9, f10])), (a2, .inr (1, [.int 0, .int nv, .int nr, .int ng, .int nd, .int nc, g6, g7, g8, g9, .int pr, g11, g12, g13, g14, g15, g16]))] sz)) (vx_X (fun n : String => (n = "java/lang/IllegalStateException" ∧ (False))) (fun E n t => E = n ∧ va_P (dC, dI) vwCl [(h0, .inr (11, [.ref a0, .ref a1, .ref a2, .ref a3, .int sl, f5, f6, f7, f8, f9, f10])), (a2, .inr (1, [.int 0, .int nv, .int nr, .int ng, .int nd, .int nc, g6, g7, g8, g9, .int pr, g11, g12, g13, g14, g15, g16]))] t.heap ∧ va_K (dC, dI) vwCl [] t ∧ va_D (va_A [(h0, .inr (11, [.ref a0, .ref a1, .ref a2, .ref a3, .int sl, f5, f6, f7, f8, f9, f10])), (a2, .inr (1, [.int 0, .int nv, .int nr, .int ng, .int nd, .int nc, g6, g7, g8, g9, .int pr, g11, g12, g13, g14, g15, g16]))] sz) [(h0, .inr (11, [.ref a0, .ref a1, .ref a2, .ref a3, .int sl, f5, f6, f7, f8, f9, f10])), (a2, .inr (1, [.int 0, .int nv, .int nr, .int ng, .int nd, .int nc, g6, g7, g8, g9, .int pr, g11, g12, g13, g14, g15, g16]))]) (va_A [(h0, .inr (11, [.ref a0, .ref a1, .ref a2, .ref a3, .int sl, f5, f6, f7, f8, f9, f10])), (a2, .inr (1, [.int 0, .int nv, .int nr, .int ng, .int nd, .int nc, g6, g7, g8, g9, .int pr, g11, g12, g13, g14, g15, g16]))] sz)) 1 6 (va_A [(h0, .inr (11, [.ref a0, .ref a1, .ref a2, .ref a3, .int sl, f5, f6, f7, f8, f9, f10])), (a2, .inr (1, [.int 0, .int nv, .int nr, .int ng, .int nd, .int nc, g6, g7, g8, g9, .int pr, g11, g12, g13, g14, g15, g16]))] sz) := by
  refine vx_ofWH (hh := [(0, 16, 19, 32)]) (cc := cL_solve) (maxL := 4) (ret := (some .int)) (by decide) rfl ?_
  intro p e s m args below meth c s₁ B hml hv
  obtain ⟨rfl, hsz, hP, hK, hD0, hU, hN, hngX11_161⟩ := hv
  have hx := B.exec
  have hb := B.bytes
  have hr := B.returns
  have hts := atoms_spec (ws := wsFL_solve) B.pre
  have hown : s.vm.findClass RL = some m.cls := findClass_of_methodNamed B.named
  have hlocks := B.notSynchronized
  have htb : c.exceptionTable.toList = tableOf [(0, 16, 19, 32)] := vx_table (x := yL_solve) B (hts _ List.mem_cons_self)
  subst hsz
  have hD := hD0.self (sz := s.heap.size)
  generalize hAe : va_A [(h0, .inr (11, [.ref a0, .ref a1, .ref a2, .ref a3, .int sl, f5, f6, f7, f8, f9, f10])), (a2, .inr (1, [.int 0, .int nv, .int nr, .int ng, .int nd, .int nc, g6, g7, g8, g9, .int pr, g11, g12, g13, g14, g15, g16]))] s.heap.size = A at hD hU hN ⊢
  have hA : ∀ q : Nat, s.heap.size ≤ q → A q := fun q h => by rw [← hAe]; exact Or.inr h
  have hS : va_S A s.heap s.heap [] := va_S.rf
  have hP : va_P (dC, dI) vwCl [(h0, .inr (11, [.ref a0, .ref a1, .ref a2, .ref a3, .int sl, f5, f6, f7, f8, f9, f10])), (a2, .inr (1, [.int 0, .int nv, .int nr, .int ng, .int nd, .int nc, g6, g7, g8, g9, .int pr, g11, g12, g13, g14, g15, g16]))] s.heap := hP
  have hl := lv_entry ([.ref h0, .int rx, .ref o]) (n := 4) (Nat.le_of_ble_eq_true rfl)
  rw [lg_entry_eq]
  generalize (lg_sl ([.ref h0, .int rx, .ref o]) ++ List.replicate (4 - (lg_sl ([.ref h0, .int rx, .ref o])).length) Slot.unset).toArray = ls at hl ⊢
  have hl : lv_has ls 4 [(0, .ref h0), (1, .int rx), (2, .ref o)] := hl
  refine lv_aload_n hx hb dL_solve_0 rfl (lv_at hl 2 rfl) ?_
  refine lv_iconst (v := 0) hx hb dL_solve_1 (by decide) ?_
  refine lv_aload_n hx hb dL_solve_2 rfl (lv_at hl 0 rfl) ?_
  refine lv_iload_n hx hb dL_solve_3 rfl (lv_at hl 1 rfl) ?_
  have hPc := hP.sub (ws' := [(h0, .inr (11, [.ref a0, .ref a1, .ref a2, .ref a3, .int sl, f5, f6, f7, f8, f9, f10])), (a2, .inr (1, [.int 0, .int nv, .int nr, .int ng, .int nd, .int nc, g6, g7, g8, g9, .int pr, g11, g12, g13, g14, g15, g16]))]) [0, 1] rfl
  have hDc := hD.sub (ws' := [(h0, .inr (11, [.ref a0, .ref a1, .ref a2, .ref a3, .int sl, f5, f6, f7, f8, f9, f10])), (a2, .inr (1, [.int 0, .int nv, .int nr, .int ng, .int nd, .int nc, g6, g7, g8, g9, .int pr, g11, g12, g13, g14, g15, g16]))]) [0, 1] (by decide) rfl
  have hKc := hK.sub (tys' := []) [] rfl
  have hFc := va_free (wc := [(h0, .inr (11, [.ref a0, .ref a1, .ref a2, .ref a3, .int sl, f5, f6, f7, f8, f9, f10])), (a2, .inr (1, [.int 0, .int nv, .int nr, .int ng, .int nd, .int nc, g6, g7, g8, g9, .int pr, g11, g12, g13, g14, g15, g16]))]) hD hS hA [0, 1] rfl
  refine vx_calli (vx_runV (As := [.int rx]) (rest := [.int 0, .ref o]) ⟨hx, hb, hml, hown, hts⟩ (x_X11_solve l hst dC dI h0 a0 a1 a2 a3 sl f5 f6 f7 f8 f9 f10 nv nr ng nd nc g6 g7 g8 g9 pr g11 g12 g13 g14 g15 g16 rx s.heap.size) (cwV 1 hts gFL_solve rfl rfl rfl (by decide +kernel) ⟨by decide +kernel, by decide +kernel⟩) ⟨fun a U g mk q => by obtain ⟨q0, q1, qP, qK, qD, qU, qN, qngX11_161⟩ := q; exact ⟨q0, q1, qP, va_K.moved (u := U) (U := U.calling g mk a) (Vm.Alike.refl U.vm) qK, qD, vx_Zq.moved (u := U) (U := U.calling g mk a) (Vm.Alike.refl U.vm) qU, vx_Zq.moved (u := U) (U := U.calling g mk a) (Vm.Alike.refl U.vm) qN, fun w h => va_Nw.same (u := U) (U := U.calling g mk a) (ngX11_161_ot w h) rfl (qngX11_161 w h)⟩, va_recv hKc hPc (ci := 11) (q0 := 0) rfl rfl, fun U hU9 hW => ⟨rfl, by rw [hU9], by rw [hU9]; exact hPc, va_K.moved hW.alike hKc, hDc.weaken (fun _ _ _ _ => trivial), by rw [hU9]; exact ((hU.kept (fun a h1 h2 => hS.2.1 a h1 h2)).narrow hFc).moved hW.alike, by rw [hU9]; exact ((hN.kept (fun a h1 h2 => hS.2.1 a h1 h2)).narrow hFc).moved hW.alike, fun w h => cd_warm (ngX11_161_cd w h) hW (hngX11_161 w h)⟩⟩ rfl rfl hl.1 rfl (lv_room (Nat.le_of_ble_eq_true rfl)) dL_solve_4 ⟨by decide +kernel, by decide +kernel⟩) hS (fun q _ h => hFc q h) hFc (fun q _ h => hFc q h) (fun E ce q9 u t H1 locs1 ht hvm hw hB hz1 hk1 hS hc1 hc2 hc3 => ?_) (fun r u t H1 locs1 ht hvm hw hB hz1 hk1 hS => hw.elim)
  obtain ⟨hE, hP1, hK1, hD1⟩ := hB
  subst hE
  rw [ht] at hP1
  have hK1 := va_K.moved hvm.symm hK1
  obtain ⟨hP, hD⟩ := va_join (wr := []) (w1 := [(h0, .inr (11, [.ref a0, .ref a1, .ref a2, .ref a3, .int sl, f5, f6, f7, f8, f9, f10])), (a2, .inr (1, [.int 0, .int nv, .int nr, .int ng, .int nd, .int nc, g6, g7, g8, g9, .int pr, g11, g12, g13, g14, g15, g16]))]) hP hD [0, 1] [] rfl rfl (by decide) (by decide) hk1 hFc hP1 hD1
  have hP := hP.sub (ws' := [(h0, .inr (11, [.ref a0, .ref a1, .ref a2, .ref a3, .int sl, f5, f6, f7, f8, f9, f10])), (a2, .inr (1, [.int 0, .int nv, .int nr, .int ng, .int nd, .int nc, g6, g7, g8, g9, .int pr, g11, g12, g13, g14, g15, g16]))]) [0, 1] rfl
  have hD := hD.sub (ws' := [(h0, .inr (11, [.ref a0, .ref a1, .ref a2, .ref a3, .int sl, f5, f6, f7, f8, f9, f10])), (a2, .inr (1, [.int 0, .int nv, .int nr, .int ng, .int nd, .int nc, g6, g7, g8, g9, .int pr, g11, g12, g13, g14, g15, g16]))]) [0, 1] (by decide) rfl
  refine vx_widen (k := 1) (n := 6) (by decide +kernel) (by decide +kernel) ?_
  obtain ⟨rfl, -⟩ := hw
  refine vx_catch (own := RL) (name := "java/lang/IllegalStateException") hown [] ⟨0, 16, 19, 32⟩ [] (by rw [htb]; rfl) (fun z hz => absurd hz List.not_mem_nil) (by decide) (by decide) (hts (.classLink RL 32 "java/lang/IllegalStateException") (by decide +kernel)) (va_Nw.use rfl (hngX11_161 (.castable "java/lang/IllegalStateException" "java/lang/IllegalStateException") (by decide +kernel))) hc1 hc2 hc3 ?_
  generalize H1 = H at hP hS hc1 ⊢
  refine lv_astore_n (lv' := [(3, .ref q9), (0, .ref h0), (1, .int rx), (2, .ref o)]) hx hb dL_solve_19 rfl hl (by decide) rfl (fun ls hl => ?_)
  refine lv_iconst (v := 1) hx hb dL_solve_20 (by decide) ?_
  refine vx_ret ?_
  refine W.widen (k := 1) (n := 6) (by decide +kernel) (by decide +kernel) ?_
  exact W.iret (v := 1) hx hb hr (fun t ht hW => ⟨⟨1, (), rfl, rfl, by rw [ht]; exact hP, va_K.moved hW.alike hK, hD⟩, hS.F ht⟩) hS.2.2 dL_solve_21
def wsFL_count : List Cond := .codeWith yL_count cL_count 3 (some .int) [(0, 8, 11, 32)] :: (.classLink RL 32 "java/lang/IllegalStateException" :: wsV RL 48 RX11 yX11_count wsFX11_count)
theorem gFL_count : GoodIn wsFL_count (wsV RL 48 RX11 yX11_count wsFX11_count) := goodIn_sub (fun _ h => List.mem_cons_of_mem _ (List.mem_cons_of_mem _ h)) (by decide +kernel)
theorem dL_count_0 : decode cL_count 0 = .ok (.aload_n 1, 1) := by decide +kernel
theorem dL_count_1 : decode cL_count 1 = .ok (.iconst 0, 1) := by decide +kernel
theorem dL_count_2 : decode cL_count 2 = .ok (.aload_n 0, 1) := by decide +kernel
theorem dL_count_3 : decode cL_count 3 = .ok (.invokevirtual 48, 3) := by decide +kernel
theorem dL_count_11 : decode cL_count 11 = .ok (.astore_n 2, 1) := by decide +kernel
theorem dL_count_12 : decode cL_count 12 = .ok (.iconst 1, 1) := by decide +kernel
theorem dL_count_13 : decode cL_count 13 = .ok (.ireturn, 1) := by decide +kernel
set_option maxHeartbeats 4000000 in
set_option maxRecDepth 100000 in
/-- on a fresh object: caught -/
theorem x_L_count (l : Launch) (hst : l.stackTraces = false) (dC : Nat → ClassId) (dI : Nat → Nat → Nat) (h0 o : Nat) (a0 a1 a2 a3 : Nat) (sl : Int32) (f5 f6 f7 f8 f9 f10 : Value) (nv nr ng nd nc : Int32) (g6 g7 g8 g9 : Value) (pr : Int32) (g11 g12 g13 g14 g15 g16 : Value)  (sz : Nat) : vx_Met l yL_count wsFL_count ({ frames := 8, cells := 1, slots := 6, locals := 121 }) (va_Pc [.ref h0, .ref o] (fun U => U.heap.size = sz ∧ va_P (dC, dI) vwCl [(h0, .inr (11, [.ref a0, .ref a1, .ref a2, .ref a3, .int sl, f5, f6, f7, f8, f9, f10])), (a2, .inr (1, [.int 0, .int nv, .int nr, .int ng, .int nd, .int nc, g6, g7, g8, g9, .int pr, g11, g12, g13, g14, g15, g16]))] U.heap ∧ va_K (dC, dI) vwCl [] U ∧ va_D (fun _ => True) [(h0, .inr (11, [.ref a0, .ref a1, .ref a2, .ref a3, .int sl, f5, f6, f7, f8, f9, f10])), (a2, .inr (1, [.int 0, .int nv, .int nr, .int ng, .int nd, .int nc, g6, g7, g8, g9, .int pr, g11, g12, g13, g14, g15, g16]))] ∧ vx_Zq Bundle.tN "UNASSIGNED_STACK" Bundle.steD (va_A [(h0, .inr (11, [.ref a0, .ref a1, .ref a2, .ref a3, .int sl, f5, f6, f7, f8, f9, f10])), (a2, .inr (1, [.int 0, .int nv, .int nr, .int ng, .int nd, .int nc, g6, g7, g8, g9, .int pr, g11, g12, g13, g14, g15, g16]))] sz) U U.heap ∧ vx_Zq Bundle.tN "SUPPRESSED_SENTINEL" Bundle.listD (va_A [(h0, .inr (11, [.ref a0, .ref a1, .ref a2, .ref a3, .int sl, f5, f6, f7, f8, f9, f10])), (a2, .inr (1, [.int 0, .int nv, .int nr, .int ng, .int nd, .int nc, g6, g7, g8, g9, .int pr, g11, g12, g13, g14, g15, g16]))] sz) U U.heap ∧ (∀ w ∈ ngX11_161, va_Nw w U))) (va_Qi (fun (r : Int32) (_ : Unit) => r = 1) (fun _ t => va_P (dC, dI) vwCl [(h0, .inr (11, [.ref a0, .ref a1, .ref a2, .ref a3, .int sl, f5, f6, f7, f8, f9, f10])), (a2, .inr (1, [.int 0, .int nv, .int nr, .int ng, .int nd, .int nc, g6, g7, g8, g9, .int pr, g11, g12, g13, g14, g15, g16]))] t.heap ∧ va_K (dC, dI) vwCl [] t ∧ va_D (va_A [(h0, .inr (11, [.ref a0, .ref a1, .ref a2, .ref a3, .int sl, f5, f6, f7, f8, f9, f10])), (a2, .inr (1, [.int 0, .int nv, .int nr, .int ng, .int nd, .int nc, g6, g7, g8, g9, .int pr, g11, g12, g13, g14, g15, g16]))] sz) [(h0, .inr (11, [.ref a0, .ref a1, .ref a2, .ref a3, .int sl, f5, f6, f7, f8, f9, f10])), (a2, .inr (1, [.int 0, .int nv, .int nr, .int ng, .int nd, .int nc, g6, g7, g8, g9, .int pr, g11, g12, g13, g14, g15, g16]))]) (va_A [(h0, .inr (11, [.ref a0, .ref a1, .ref a2, .ref a3, .int sl, f5, f6, f7, f8, f9, f10])), (a2, .inr (1, [.int 0, .int nv, .int nr, .int ng, .int nd, .int nc, g6, g7, g8, g9, .int pr, g11, g12, g13, g14, g15, g16]))] sz)) (vx_X (fun n : String => (n = "java/lang/IllegalStateException" ∧ (False))) (fun E n t => E = n ∧ va_P (dC, dI) vwCl [(h0, .inr (11, [.ref a0, .ref a1, .ref a2, .ref a3, .int sl, f5, f6, f7, f8, f9, f10])), (a2, .inr (1, [.int 0, .int nv, .int nr, .int ng, .int nd, .int nc, g6, g7, g8, g9, .int pr, g11, g12, g13, g14, g15, g16]))] t.heap ∧ va_K (dC, dI) vwCl [] t ∧ va_D (va_A [(h0, .inr (11, [.ref a0, .ref a1, .ref a2, .ref a3, .int sl, f5, f6, f7, f8, f9, f10])), (a2, .inr (1, [.int 0, .int nv, .int nr, .int ng, .int nd, .int nc, g6, g7, g8, g9, .int pr, g11, g12, g13, g14, g15, g16]))] sz) [(h0, .inr (11, [.ref a0, .ref a1, .ref a2, .ref a3, .int sl, f5, f6, f7, f8, f9, f10])), (a2, .inr (1, [.int 0, .int nv, .int nr, .int ng, .int nd, .int nc, g6, g7, g8, g9, .int pr, g11, g12, g13, g14, g15, g16]))]) (va_A [(h0, .inr (11, [.ref a0, .ref a1, .ref a2, .ref a3, .int sl, f5, f6, f7, f8, f9, f10])), (a2, .inr (1, [.int 0, .int nv, .int nr, .int ng, .int nd, .int nc, g6, g7, g8, g9, .int pr, g11, g12, g13, g14, g15, g16]))] sz)) 1 6 (va_A [(h0, .inr (11, [.ref a0, .ref a1, .ref a2, .ref a3, .int sl, f5, f6, f7, f8, f9, f10])), (a2, .inr (1, [.int 0, .int nv, .int nr, .int ng, .int nd, .int nc, g6, g7, g8, g9, .int pr, g11, g12, g13, g14, g15, g16]))] sz) := by
  refine vx_ofWH (hh := [(0, 8, 11, 32)]) (cc := cL_count) (maxL := 3) (ret := (some .int)) (by decide) rfl ?_
  intro p e s m args below meth c s₁ B hml hv
  obtain ⟨rfl, hsz, hP, hK, hD0, hU, hN, hngX11_161⟩ := hv
  have hx := B.exec
  have hb := B.bytes
  have hr := B.returns
  have hts := atoms_spec (ws := wsFL_count) B.pre
  have hown : s.vm.findClass RL = some m.cls := findClass_of_methodNamed B.named
  have hlocks := B.notSynchronized
  have htb : c.exceptionTable.toList = tableOf [(0, 8, 11, 32)] := vx_table (x := yL_count) B (hts _ List.mem_cons_self)
  subst hsz
  have hD := hD0.self (sz := s.heap.size)
  generalize hAe : va_A [(h0, .inr (11, [.ref a0, .ref a1, .ref a2, .ref a3, .int sl, f5, f6, f7, f8, f9, f10])), (a2, .inr (1, [.int 0, .int nv, .int nr, .int ng, .int nd, .int nc, g6, g7, g8, g9, .int pr, g11, g12, g13, g14, g15, g16]))] s.heap.size = A at hD hU hN ⊢
  have hA : ∀ q : Nat, s.heap.size ≤ q → A q := fun q h => by rw [← hAe]; exact Or.inr h
  have hS : va_S A s.heap s.heap [] := va_S.rf
  have hP : va_P (dC, dI) vwCl [(h0, .inr (11, [.ref a0, .ref a1, .ref a2, .ref a3, .int sl, f5, f6, f7, f8, f9, f10])), (a2, .inr (1, [.int 0, .int nv, .int nr, .int ng, .int nd, .int nc, g6, g7, g8, g9, .int pr, g11, g12, g13, g14, g15, g16]))] s.heap := hP
  have hl := lv_entry ([.ref h0, .ref o]) (n := 3) (Nat.le_of_ble_eq_true rfl)
  rw [lg_entry_eq]
  generalize (lg_sl ([.ref h0, .ref o]) ++ List.replicate (3 - (lg_sl ([.ref h0, .ref o])).length) Slot.unset).toArray = ls at hl ⊢
  have hl : lv_has ls 3 [(0, .ref h0), (1, .ref o)] := hl
  refine lv_aload_n hx hb dL_count_0 rfl (lv_at hl 1 rfl) ?_
  refine lv_iconst (v := 0) hx hb dL_count_1 (by decide) ?_
  refine lv_aload_n hx hb dL_count_2 rfl (lv_at hl 0 rfl) ?_
  have hPc := hP.sub (ws' := [(h0, .inr (11, [.ref a0, .ref a1, .ref a2, .ref a3, .int sl, f5, f6, f7, f8, f9, f10])), (a2, .inr (1, [.int 0, .int nv, .int nr, .int ng, .int nd, .int nc, g6, g7, g8, g9, .int pr, g11, g12, g13, g14, g15, g16]))]) [0, 1] rfl
  have hDc := hD.sub (ws' := [(h0, .inr (11, [.ref a0, .ref a1, .ref a2, .ref a3, .int sl, f5, f6, f7, f8, f9, f10])), (a2, .inr (1, [.int 0, .int nv, .int nr, .int ng, .int nd, .int nc, g6, g7, g8, g9, .int pr, g11, g12, g13, g14, g15, g16]))]) [0, 1] (by decide) rfl
  have hKc := hK.sub (tys' := []) [] rfl
  have hFc := va_free (wc := [(h0, .inr (11, [.ref a0, .ref a1, .ref a2, .ref a3, .int sl, f5, f6, f7, f8, f9, f10])), (a2, .inr (1, [.int 0, .int nv, .int nr, .int ng, .int nd, .int nc, g6, g7, g8, g9, .int pr, g11, g12, g13, g14, g15, g16]))]) hD hS hA [0, 1] rfl
  refine vx_calli (vx_runV (As := []) (rest := [.int 0, .ref o]) ⟨hx, hb, hml, hown, hts⟩ (x_X11_count l hst dC dI h0 a0 a1 a2 a3 sl f5 f6 f7 f8 f9 f10 nv nr ng nd nc g6 g7 g8 g9 pr g11 g12 g13 g14 g15 g16 s.heap.size) (cwV 0 hts gFL_count rfl rfl rfl (by decide +kernel) ⟨by decide +kernel, by decide +kernel⟩) ⟨fun a U g mk q => by obtain ⟨q0, q1, qP, qK, qD, qU, qN, qngX11_161⟩ := q; exact ⟨q0, q1, qP, va_K.moved (u := U) (U := U.calling g mk a) (Vm.Alike.refl U.vm) qK, qD, vx_Zq.moved (u := U) (U := U.calling g mk a) (Vm.Alike.refl U.vm) qU, vx_Zq.moved (u := U) (U := U.calling g mk a) (Vm.Alike.refl U.vm) qN, fun w h => va_Nw.same (u := U) (U := U.calling g mk a) (ngX11_161_ot w h) rfl (qngX11_161 w h)⟩, va_recv hKc hPc (ci := 11) (q0 := 0) rfl rfl, fun U hU9 hW => ⟨rfl, by rw [hU9], by rw [hU9]; exact hPc, va_K.moved hW.alike hKc, hDc.weaken (fun _ _ _ _ => trivial), by rw [hU9]; exact ((hU.kept (fun a h1 h2 => hS.2.1 a h1 h2)).narrow hFc).moved hW.alike, by rw [hU9]; exact ((hN.kept (fun a h1 h2 => hS.2.1 a h1 h2)).narrow hFc).moved hW.alike, fun w h => cd_warm (ngX11_161_cd w h) hW (hngX11_161 w h)⟩⟩ rfl rfl hl.1 rfl (lv_room (Nat.le_of_ble_eq_true rfl)) dL_count_3 ⟨by decide +kernel, by decide +kernel⟩) hS (fun q _ h => hFc q h) hFc (fun q _ h => hFc q h) (fun E ce q9 u t H1 locs1 ht hvm hw hB hz1 hk1 hS hc1 hc2 hc3 => ?_) (fun r u t H1 locs1 ht hvm hw hB hz1 hk1 hS => hw.elim)
  obtain ⟨hE, hP1, hK1, hD1⟩ := hB
  subst hE
  rw [ht] at hP1
  have hK1 := va_K.moved hvm.symm hK1
  obtain ⟨hP, hD⟩ := va_join (wr := []) (w1 := [(h0, .inr (11, [.ref a0, .ref a1, .ref a2, .ref a3, .int sl, f5, f6, f7, f8, f9, f10])), (a2, .inr (1, [.int 0, .int nv, .int nr, .int ng, .int nd, .int nc, g6, g7, g8, g9, .int pr, g11, g12, g13, g14, g15, g16]))]) hP hD [0, 1] [] rfl rfl (by decide) (by decide) hk1 hFc hP1 hD1
  have hP := hP.sub (ws' := [(h0, .inr (11, [.ref a0, .ref a1, .ref a2, .ref a3, .int sl, f5, f6, f7, f8, f9, f10])), (a2, .inr (1, [.int 0, .int nv, .int nr, .int ng, .int nd, .int nc, g6, g7, g8, g9, .int pr, g11, g12, g13, g14, g15, g16]))]) [0, 1] rfl
  have hD := hD.sub (ws' := [(h0, .inr (11, [.ref a0, .ref a1, .ref a2, .ref a3, .int sl, f5, f6, f7, f8, f9, f10])), (a2, .inr (1, [.int 0, .int nv, .int nr, .int ng, .int nd, .int nc, g6, g7, g8, g9, .int pr, g11, g12, g13, g14, g15, g16]))]) [0, 1] (by decide) rfl
  refine vx_widen (k := 1) (n := 6) (by decide +kernel) (by decide +kernel) ?_
  obtain ⟨rfl, -⟩ := hw
  refine vx_catch (own := RL) (name := "java/lang/IllegalStateException") hown [] ⟨0, 8, 11, 32⟩ [] (by rw [htb]; rfl) (fun z hz => absurd hz List.not_mem_nil) (by decide) (by decide) (hts (.classLink RL 32 "java/lang/IllegalStateException") (by decide +kernel)) (va_Nw.use rfl (hngX11_161 (.castable "java/lang/IllegalStateException" "java/lang/IllegalStateException") (by decide +kernel))) hc1 hc2 hc3 ?_
  generalize H1 = H at hP hS hc1 ⊢
  refine lv_astore_n (lv' := [(2, .ref q9), (0, .ref h0), (1, .ref o)]) hx hb dL_count_11 rfl hl (by decide) rfl (fun ls hl => ?_)
  refine lv_iconst (v := 1) hx hb dL_count_12 (by decide) ?_
  refine vx_ret ?_
  refine W.widen (k := 1) (n := 6) (by decide +kernel) (by decide +kernel) ?_
  exact W.iret (v := 1) hx hb hr (fun t ht hW => ⟨⟨1, (), rfl, rfl, by rw [ht]; exact hP, va_K.moved hW.alike hK, hD⟩, hS.F ht⟩) hS.2.2 dL_count_13
def wsFL_counted : List Cond := .codeWith yL_counted cL_counted 5 (some .int) [(0, 10, 13, 32)] :: (.classLink RL 32 "java/lang/IllegalStateException" :: wsV RL 51 RX11 yX11_counted wsFX11_counted)
theorem gFL_counted : GoodIn wsFL_counted (wsV RL 51 RX11 yX11_counted wsFX11_counted) := goodIn_sub (fun _ h => List.mem_cons_of_mem _ (List.mem_cons_of_mem _ h)) (by decide +kernel)
theorem dL_counted_0 : decode cL_counted 0 = .ok (.aload_n 3, 1) := by decide +kernel
theorem dL_counted_1 : decode cL_counted 1 = .ok (.iconst 0, 1) := by decide +kernel
theorem dL_counted_2 : decode cL_counted 2 = .ok (.aload_n 0, 1) := by decide +kernel
theorem dL_counted_3 : decode cL_counted 3 = .ok (.iload_n 1, 1) := by decide +kernel
theorem dL_counted_4 : decode cL_counted 4 = .ok (.iload_n 2, 1) := by decide +kernel
theorem dL_counted_5 : decode cL_counted 5 = .ok (.invokevirtual 51, 3) := by decide +kernel
theorem dL_counted_13 : decode cL_counted 13 = .ok (.astore 4, 2) := by decide +kernel
theorem dL_counted_15 : decode cL_counted 15 = .ok (.iconst 1, 1) := by decide +kernel
theorem dL_counted_16 : decode cL_counted 16 = .ok (.ireturn, 1) := by decide +kernel
set_option maxHeartbeats 4000000 in
set_option maxRecDepth 100000 in
/-- on a fresh object: caught -/
theorem x_L_counted (l : Launch) (hst : l.stackTraces = false) (dC : Nat → ClassId) (dI : Nat → Nat → Nat) (h0 o : Nat) (a0 a1 a2 a3 : Nat) (sl : Int32) (f5 f6 f7 f8 f9 f10 : Value) (nv nr ng nd nc : Int32) (g6 g7 g8 g9 : Value) (pr : Int32) (g11 g12 g13 g14 g15 g16 : Value) (ck : Int32) (cv : Int32) (sz : Nat) : vx_Met l yL_counted wsFL_counted ({ frames := 8, cells := 1, slots := 6, locals := 123 }) (va_Pc [.ref h0, .int ck, .int cv, .ref o] (fun U => U.heap.size = sz ∧ va_P (dC, dI) vwCl [(h0, .inr (11, [.ref a0, .ref a1, .ref a2, .ref a3, .int sl, f5, f6, f7, f8, f9, f10])), (a2, .inr (1, [.int 0, .int nv, .int nr, .int ng, .int nd, .int nc, g6, g7, g8, g9, .int pr, g11, g12, g13, g14, g15, g16]))] U.heap ∧ va_K (dC, dI) vwCl [] U ∧ va_D (fun _ => True) [(h0, .inr (11, [.ref a0, .ref a1, .ref a2, .ref a3, .int sl, f5, f6, f7, f8, f9, f10])), (a2, .inr (1, [.int 0, .int nv, .int nr, .int ng, .int nd, .int nc, g6, g7, g8, g9, .int pr, g11, g12, g13, g14, g15, g16]))] ∧ vx_Zq Bundle.tN "UNASSIGNED_STACK" Bundle.steD (va_A [(h0, .inr (11, [.ref a0, .ref a1, .ref a2, .ref a3, .int sl, f5, f6, f7, f8, f9, f10])), (a2, .inr (1, [.int 0, .int nv, .int nr, .int ng, .int nd, .int nc, g6, g7, g8, g9, .int pr, g11, g12, g13, g14, g15, g16]))] sz) U U.heap ∧ vx_Zq Bundle.tN "SUPPRESSED_SENTINEL" Bundle.listD (va_A [(h0, .inr (11, [.ref a0, .ref a1, .ref a2, .ref a3, .int sl, f5, f6, f7, f8, f9, f10])), (a2, .inr (1, [.int 0, .int nv, .int nr, .int ng, .int nd, .int nc, g6, g7, g8, g9, .int pr, g11, g12, g13, g14, g15, g16]))] sz) U U.heap ∧ (∀ w ∈ ngX11_161, va_Nw w U))) (va_Qi (fun (r : Int32) (_ : Unit) => r = 1) (fun _ t => va_P (dC, dI) vwCl [(h0, .inr (11, [.ref a0, .ref a1, .ref a2, .ref a3, .int sl, f5, f6, f7, f8, f9, f10])), (a2, .inr (1, [.int 0, .int nv, .int nr, .int ng, .int nd, .int nc, g6, g7, g8, g9, .int pr, g11, g12, g13, g14, g15, g16]))] t.heap ∧ va_K (dC, dI) vwCl [] t ∧ va_D (va_A [(h0, .inr (11, [.ref a0, .ref a1, .ref a2, .ref a3, .int sl, f5, f6, f7, f8, f9, f10])), (a2, .inr (1, [.int 0, .int nv, .int nr, .int ng, .int nd, .int nc, g6, g7, g8, g9, .int pr, g11, g12, g13, g14, g15, g16]))] sz) [(h0, .inr (11, [.ref a0, .ref a1, .ref a2, .ref a3, .int sl, f5, f6, f7, f8, f9, f10])), (a2, .inr (1, [.int 0, .int nv, .int nr, .int ng, .int nd, .int nc, g6, g7, g8, g9, .int pr, g11, g12, g13, g14, g15, g16]))]) (va_A [(h0, .inr (11, [.ref a0, .ref a1, .ref a2, .ref a3, .int sl, f5, f6, f7, f8, f9, f10])), (a2, .inr (1, [.int 0, .int nv, .int nr, .int ng, .int nd, .int nc, g6, g7, g8, g9, .int pr, g11, g12, g13, g14, g15, g16]))] sz)) (vx_X (fun n : String => (n = "java/lang/IllegalStateException" ∧ (False))) (fun E n t => E = n ∧ va_P (dC, dI) vwCl [(h0, .inr (11, [.ref a0, .ref a1, .ref a2, .ref a3, .int sl, f5, f6, f7, f8, f9, f10])), (a2, .inr (1, [.int 0, .int nv, .int nr, .int ng, .int nd, .int nc, g6, g7, g8, g9, .int pr, g11, g12, g13, g14, g15, g16]))] t.heap ∧ va_K (dC, dI) vwCl [] t ∧ va_D (va_A [(h0, .inr (11, [.ref a0, .ref a1, .ref a2, .ref a3, .int sl, f5, f6, f7, f8, f9, f10])), (a2, .inr (1, [.int 0, .int nv, .int nr, .int ng, .int nd, .int nc, g6, g7, g8, g9, .int pr, g11, g12, g13, g14, g15, g16]))] sz) [(h0, .inr (11, [.ref a0, .ref a1, .ref a2, .ref a3, .int sl, f5, f6, f7, f8, f9, f10])), (a2, .inr (1, [.int 0, .int nv, .int nr, .int ng, .int nd, .int nc, g6, g7, g8, g9, .int pr, g11, g12, g13, g14, g15, g16]))]) (va_A [(h0, .inr (11, [.ref a0, .ref a1, .ref a2, .ref a3, .int sl, f5, f6, f7, f8, f9, f10])), (a2, .inr (1, [.int 0, .int nv, .int nr, .int ng, .int nd, .int nc, g6, g7, g8, g9, .int pr, g11, g12, g13, g14, g15, g16]))] sz)) 1 6 (va_A [(h0, .inr (11, [.ref a0, .ref a1, .ref a2, .ref a3, .int sl, f5, f6, f7, f8, f9, f10])), (a2, .inr (1, [.int 0, .int nv, .int nr, .int ng, .int nd, .int nc, g6, g7, g8, g9, .int pr, g11, g12, g13, g14, g15, g16]))] sz) := by
  refine vx_ofWH (hh := [(0, 10, 13, 32)]) (cc := cL_counted) (maxL := 5) (ret := (some .int)) (by decide) rfl ?_
  intro p e s m args below meth c s₁ B hml hv
  obtain ⟨rfl, hsz, hP, hK, hD0, hU, hN, hngX11_161⟩ := hv
  have hx := B.exec
  have hb := B.bytes
  have hr := B.returns
  have hts := atoms_spec (ws := wsFL_counted) B.pre
  have hown : s.vm.findClass RL = some m.cls := findClass_of_methodNamed B.named
  have hlocks := B.notSynchronized
  have htb : c.exceptionTable.toList = tableOf [(0, 10, 13, 32)] := vx_table (x := yL_counted) B (hts _ List.mem_cons_self)
  subst hsz
  have hD := hD0.self (sz := s.heap.size)
  generalize hAe : va_A [(h0, .inr (11, [.ref a0, .ref a1, .ref a2, .ref a3, .int sl, f5, f6, f7, f8, f9, f10])), (a2, .inr (1, [.int 0, .int nv, .int nr, .int ng, .int nd, .int nc, g6, g7, g8, g9, .int pr, g11, g12, g13, g14, g15, g16]))] s.heap.size = A at hD hU hN ⊢
  have hA : ∀ q : Nat, s.heap.size ≤ q → A q := fun q h => by rw [← hAe]; exact Or.inr h
  have hS : va_S A s.heap s.heap [] := va_S.rf
  have hP : va_P (dC, dI) vwCl [(h0, .inr (11, [.ref a0, .ref a1, .ref a2, .ref a3, .int sl, f5, f6, f7, f8, f9, f10])), (a2, .inr (1, [.int 0, .int nv, .int nr, .int ng, .int nd, .int nc, g6, g7, g8, g9, .int pr, g11, g12, g13, g14, g15, g16]))] s.heap := hP
  have hl := lv_entry ([.ref h0, .int ck, .int cv, .ref o]) (n := 5) (Nat.le_of_ble_eq_true rfl)
  rw [lg_entry_eq]
  generalize (lg_sl ([.ref h0, .int ck, .int cv, .ref o]) ++ List.replicate (5 - (lg_sl ([.ref h0, .int ck, .int cv, .ref o])).length) Slot.unset).toArray = ls at hl ⊢
  have hl : lv_has ls 5 [(0, .ref h0), (1, .int ck), (2, .int cv), (3, .ref o)] := hl
  refine lv_aload_n hx hb dL_counted_0 rfl (lv_at hl 3 rfl) ?_
  refine lv_iconst (v := 0) hx hb dL_counted_1 (by decide) ?_
  refine lv_aload_n hx hb dL_counted_2 rfl (lv_at hl 0 rfl) ?_
  refine lv_iload_n hx hb dL_counted_3 rfl (lv_at hl 1 rfl) ?_
  refine lv_iload_n hx hb dL_counted_4 rfl (lv_at hl 2 rfl) ?_
  have hPc := hP.sub (ws' := [(h0, .inr (11, [.ref a0, .ref a1, .ref a2, .ref a3, .int sl, f5, f6, f7, f8, f9, f10])), (a2, .inr (1, [.int 0, .int nv, .int nr, .int ng, .int nd, .int nc, g6, g7, g8, g9, .int pr, g11, g12, g13, g14, g15, g16]))]) [0, 1] rfl
  have hDc := hD.sub (ws' := [(h0, .inr (11, [.ref a0, .ref a1, .ref a2, .ref a3, .int sl, f5, f6, f7, f8, f9, f10])), (a2, .inr (1, [.int 0, .int nv, .int nr, .int ng, .int nd, .int nc, g6, g7, g8, g9, .int pr, g11, g12, g13, g14, g15, g16]))]) [0, 1] (by decide) rfl
  have hKc := hK.sub (tys' := []) [] rfl
  have hFc := va_free (wc := [(h0, .inr (11, [.ref a0, .ref a1, .ref a2, .ref a3, .int sl, f5, f6, f7, f8, f9, f10])), (a2, .inr (1, [.int 0, .int nv, .int nr, .int ng, .int nd, .int nc, g6, g7, g8, g9, .int pr, g11, g12, g13, g14, g15, g16]))]) hD hS hA [0, 1] rfl
  refine vx_calli (vx_runV (As := [.int ck, .int cv]) (rest := [.int 0, .ref o]) ⟨hx, hb, hml, hown, hts⟩ (x_X11_counted l hst dC dI h0 a0 a1 a2 a3 sl f5 f6 f7 f8 f9 f10 nv nr ng nd nc g6 g7 g8 g9 pr g11 g12 g13 g14 g15 g16 ck cv s.heap.size) (cwV 2 hts gFL_counted rfl rfl rfl (by decide +kernel) ⟨by decide +kernel, by decide +kernel⟩) ⟨fun a U g mk q => by obtain ⟨q0, q1, qP, qK, qD, qU, qN, qngX11_161⟩ := q; exact ⟨q0, q1, qP, va_K.moved (u := U) (U := U.calling g mk a) (Vm.Alike.refl U.vm) qK, qD, vx_Zq.moved (u := U) (U := U.calling g mk a) (Vm.Alike.refl U.vm) qU, vx_Zq.moved (u := U) (U := U.calling g mk a) (Vm.Alike.refl U.vm) qN, fun w h => va_Nw.same (u := U) (U := U.calling g mk a) (ngX11_161_ot w h) rfl (qngX11_161 w h)⟩, va_recv hKc hPc (ci := 11) (q0 := 0) rfl rfl, fun U hU9 hW => ⟨rfl, by rw [hU9], by rw [hU9]; exact hPc, va_K.moved hW.alike hKc, hDc.weaken (fun _ _ _ _ => trivial), by rw [hU9]; exact ((hU.kept (fun a h1 h2 => hS.2.1 a h1 h2)).narrow hFc).moved hW.alike, by rw [hU9]; exact ((hN.kept (fun a h1 h2 => hS.2.1 a h1 h2)).narrow hFc).moved hW.alike, fun w h => cd_warm (ngX11_161_cd w h) hW (hngX11_161 w h)⟩⟩ rfl rfl hl.1 rfl (lv_room (Nat.le_of_ble_eq_true rfl)) dL_counted_5 ⟨by decide +kernel, by decide +kernel⟩) hS (fun q _ h => hFc q h) hFc (fun q _ h => hFc q h) (fun E ce q9 u t H1 locs1 ht hvm hw hB hz1 hk1 hS hc1 hc2 hc3 => ?_) (fun r u t H1 locs1 ht hvm hw hB hz1 hk1 hS => hw.elim)
  obtain ⟨hE, hP1, hK1, hD1⟩ := hB
  subst hE
  rw [ht] at hP1
  have hK1 := va_K.moved hvm.symm hK1
  obtain ⟨hP, hD⟩ := va_join (wr := []) (w1 := [(h0, .inr (11, [.ref a0, .ref a1, .ref a2, .ref a3, .int sl, f5, f6, f7, f8, f9, f10])), (a2, .inr (1, [.int 0, .int nv, .int nr, .int ng, .int nd, .int nc, g6, g7, g8, g9, .int pr, g11, g12, g13, g14, g15, g16]))]) hP hD [0, 1] [] rfl rfl (by decide) (by decide) hk1 hFc hP1 hD1
  have hP := hP.sub (ws' := [(h0, .inr (11, [.ref a0, .ref a1, .ref a2, .ref a3, .int sl, f5, f6, f7, f8, f9, f10])), (a2, .inr (1, [.int 0, .int nv, .int nr, .int ng, .int nd, .int nc, g6, g7, g8, g9, .int pr, g11, g12, g13, g14, g15, g16]))]) [0, 1] rfl
  have hD := hD.sub (ws' := [(h0, .inr (11, [.ref a0, .ref a1, .ref a2, .ref a3, .int sl, f5, f6, f7, f8, f9, f10])), (a2, .inr (1, [.int 0, .int nv, .int nr, .int ng, .int nd, .int nc, g6, g7, g8, g9, .int pr, g11, g12, g13, g14, g15, g16]))]) [0, 1] (by decide) rfl
  refine vx_widen (k := 1) (n := 6) (by decide +kernel) (by decide +kernel) ?_
  obtain ⟨rfl, -⟩ := hw
  refine vx_catch (own := RL) (name := "java/lang/IllegalStateException") hown [] ⟨0, 10, 13, 32⟩ [] (by rw [htb]; rfl) (fun z hz => absurd hz List.not_mem_nil) (by decide) (by decide) (hts (.classLink RL 32 "java/lang/IllegalStateException") (by decide +kernel)) (va_Nw.use rfl (hngX11_161 (.castable "java/lang/IllegalStateException" "java/lang/IllegalStateException") (by decide +kernel))) hc1 hc2 hc3 ?_
  generalize H1 = H at hP hS hc1 ⊢
  refine lv_astore (lv' := [(4, .ref q9), (0, .ref h0), (1, .int ck), (2, .int cv), (3, .ref o)]) hx hb dL_counted_13 hl (by decide) rfl (fun ls hl => ?_)
  refine lv_iconst (v := 1) hx hb dL_counted_15 (by decide) ?_
  refine vx_ret ?_
  refine W.widen (k := 1) (n := 6) (by decide +kernel) (by decide +kernel) ?_
  exact W.iret (v := 1) hx hb hr (fun t ht hW => ⟨⟨1, (), rfl, rfl, by rw [ht]; exact hP, va_K.moved hW.alike hK, hD⟩, hS.F ht⟩) hS.2.2 dL_counted_16
def wsFL_prove : List Cond := .codeWith yL_prove cL_prove 3 (some .int) [(0, 8, 11, 32)] :: (.classLink RL 32 "java/lang/IllegalStateException" :: wsV RL 54 RX11 yX11_prove wsFX11_prove)
theorem gFL_prove : GoodIn wsFL_prove (wsV RL 54 RX11 yX11_prove wsFX11_prove) := goodIn_sub (fun _ h => List.mem_cons_of_mem _ (List.mem_cons_of_mem _ h)) (by decide +kernel)
theorem dL_prove_0 : decode cL_prove 0 = .ok (.aload_n 1, 1) := by decide +kernel
theorem dL_prove_1 : decode cL_prove 1 = .ok (.iconst 0, 1) := by decide +kernel
theorem dL_prove_2 : decode cL_prove 2 = .ok (.aload_n 0, 1) := by decide +kernel
theorem dL_prove_3 : decode cL_prove 3 = .ok (.invokevirtual 54, 3) := by decide +kernel
theorem dL_prove_11 : decode cL_prove 11 = .ok (.astore_n 2, 1) := by decide +kernel
theorem dL_prove_12 : decode cL_prove 12 = .ok (.iconst 1, 1) := by decide +kernel
theorem dL_prove_13 : decode cL_prove 13 = .ok (.ireturn, 1) := by decide +kernel
set_option maxHeartbeats 4000000 in
set_option maxRecDepth 100000 in
/-- on a fresh object: caught -/
theorem x_L_prove (l : Launch) (hst : l.stackTraces = false) (dC : Nat → ClassId) (dI : Nat → Nat → Nat) (h0 o : Nat) (a0 a1 a2 a3 : Nat) (sl : Int32) (f5 f6 f7 f8 f9 f10 : Value) (nv nr ng nd nc : Int32) (g6 g7 g8 g9 : Value) (pr : Int32) (g11 g12 g13 g14 g15 g16 : Value)  (sz : Nat) : vx_Met l yL_prove wsFL_prove ({ frames := 8, cells := 1, slots := 6, locals := 121 }) (va_Pc [.ref h0, .ref o] (fun U => U.heap.size = sz ∧ va_P (dC, dI) vwCl [(h0, .inr (11, [.ref a0, .ref a1, .ref a2, .ref a3, .int sl, f5, f6, f7, f8, f9, f10])), (a2, .inr (1, [.int 0, .int nv, .int nr, .int ng, .int nd, .int nc, g6, g7, g8, g9, .int pr, g11, g12, g13, g14, g15, g16]))] U.heap ∧ va_K (dC, dI) vwCl [] U ∧ va_D (fun _ => True) [(h0, .inr (11, [.ref a0, .ref a1, .ref a2, .ref a3, .int sl, f5, f6, f7, f8, f9, f10])), (a2, .inr (1, [.int 0, .int nv, .int nr, .int ng, .int nd, .int nc, g6, g7, g8, g9, .int pr, g11, g12, g13, g14, g15, g16]))] ∧ vx_Zq Bundle.tN "UNASSIGNED_STACK" Bundle.steD (va_A [(h0, .inr (11, [.ref a0, .ref a1, .ref a2, .ref a3, .int sl, f5, f6, f7, f8, f9, f10])), (a2, .inr (1, [.int 0, .int nv, .int nr, .int ng, .int nd, .int nc, g6, g7, g8, g9, .int pr, g11, g12, g13, g14, g15, g16]))] sz) U U.heap ∧ vx_Zq Bundle.tN "SUPPRESSED_SENTINEL" Bundle.listD (va_A [(h0, .inr (11, [.ref a0, .ref a1, .ref a2, .ref a3, .int sl, f5, f6, f7, f8, f9, f10])), (a2, .inr (1, [.int 0, .int nv, .int nr, .int ng, .int nd, .int nc, g6, g7, g8, g9, .int pr, g11, g12, g13, g14, g15, g16]))] sz) U U.heap ∧ (∀ w ∈ ngX11_161, va_Nw w U))) (va_Qi (fun (r : Int32) (_ : Unit) => r = 1) (fun _ t => va_P (dC, dI) vwCl [(h0, .inr (11, [.ref a0, .ref a1, .ref a2, .ref a3, .int sl, f5, f6, f7, f8, f9, f10])), (a2, .inr (1, [.int 0, .int nv, .int nr, .int ng, .int nd, .int nc, g6, g7, g8, g9, .int pr, g11, g12, g13, g14, g15, g16]))] t.heap ∧ va_K (dC, dI) vwCl [] t ∧ va_D (va_A [(h0, .inr (11, [.ref a0, .ref a1, .ref a2, .ref a3, .int sl, f5, f6, f7, f8, f9, f10])), (a2, .inr (1, [.int 0, .int nv, .int nr, .int ng, .int nd, .int nc, g6, g7, g8, g9, .int pr, g11, g12, g13, g14, g15, g16]))] sz) [(h0, .inr (11, [.ref a0, .ref a1, .ref a2, .ref a3, .int sl, f5, f6, f7, f8, f9, f10])), (a2, .inr (1, [.int 0, .int nv, .int nr, .int ng, .int nd, .int nc, g6, g7, g8, g9, .int pr, g11, g12, g13, g14, g15, g16]))]) (va_A [(h0, .inr (11, [.ref a0, .ref a1, .ref a2, .ref a3, .int sl, f5, f6, f7, f8, f9, f10])), (a2, .inr (1, [.int 0, .int nv, .int nr, .int ng, .int nd, .int nc, g6, g7, g8, g9, .int pr, g11, g12, g13, g14, g15, g16]))] sz)) (vx_X (fun n : String => (n = "java/lang/IllegalStateException" ∧ (False))) (fun E n t => E = n ∧ va_P (dC, dI) vwCl [(h0, .inr (11, [.ref a0, .ref a1, .ref a2, .ref a3, .int sl, f5, f6, f7, f8, f9, f10])), (a2, .inr (1, [.int 0, .int nv, .int nr, .int ng, .int nd, .int nc, g6, g7, g8, g9, .int pr, g11, g12, g13, g14, g15, g16]))] t.heap ∧ va_K (dC, dI) vwCl [] t ∧ va_D (va_A [(h0, .inr (11, [.ref a0, .ref a1, .ref a2, .ref a3, .int sl, f5, f6, f7, f8, f9, f10])), (a2, .inr (1, [.int 0, .int nv, .int nr, .int ng, .int nd, .int nc, g6, g7, g8, g9, .int pr, g11, g12, g13, g14, g15, g16]))] sz) [(h0, .inr (11, [.ref a0, .ref a1, .ref a2, .ref a3, .int sl, f5, f6, f7, f8, f9, f10])), (a2, .inr (1, [.int 0, .int nv, .int nr, .int ng, .int nd, .int nc, g6, g7, g8, g9, .int pr, g11, g12, g13, g14, g15, g16]))]) (va_A [(h0, .inr (11, [.ref a0, .ref a1, .ref a2, .ref a3, .int sl, f5, f6, f7, f8, f9, f10])), (a2, .inr (1, [.int 0, .int nv, .int nr, .int ng, .int nd, .int nc, g6, g7, g8, g9, .int pr, g11, g12, g13, g14, g15, g16]))] sz)) 1 6 (va_A [(h0, .inr (11, [.ref a0, .ref a1, .ref a2, .ref a3, .int sl, f5, f6, f7, f8, f9, f10])), (a2, .inr (1, [.int 0, .int nv, .int nr, .int ng, .int nd, .int nc, g6, g7, g8, g9, .int pr, g11, g12, g13, g14, g15, g16]))] sz) := by
  refine vx_ofWH (hh := [(0, 8, 11, 32)]) (cc := cL_prove) (maxL := 3) (ret := (some .int)) (by decide) rfl ?_
  intro p e s m args below meth c s₁ B hml hv
  obtain ⟨rfl, hsz, hP, hK, hD0, hU, hN, hngX11_161⟩ := hv
  have hx := B.exec
  have hb := B.bytes
  have hr := B.returns
  have hts := atoms_spec (ws := wsFL_prove) B.pre
  have hown : s.vm.findClass RL = some m.cls := findClass_of_methodNamed B.named
  have hlocks := B.notSynchronized
  have htb : c.exceptionTable.toList = tableOf [(0, 8, 11, 32)] := vx_table (x := yL_prove) B (hts _ List.mem_cons_self)
  subst hsz
  have hD := hD0.self (sz := s.heap.size)
  generalize hAe : va_A [(h0, .inr (11, [.ref a0, .ref a1, .ref a2, .ref a3, .int sl, f5, f6, f7, f8, f9, f10])), (a2, .inr (1, [.int 0, .int nv, .int nr, .int ng, .int nd, .int nc, g6, g7, g8, g9, .int pr, g11, g12, g13, g14, g15, g16]))] s.heap.size = A at hD hU hN ⊢
  have hA : ∀ q : Nat, s.heap.size ≤ q → A q := fun q h => by rw [← hAe]; exact Or.inr h
  have hS : va_S A s.heap s.heap [] := va_S.rf
  have hP : va_P (dC, dI) vwCl [(h0, .inr (11, [.ref a0, .ref a1, .ref a2, .ref a3, .int sl, f5, f6, f7, f8, f9, f10])), (a2, .inr (1, [.int 0, .int nv, .int nr, .int ng, .int nd, .int nc, g6, g7, g8, g9, .int pr, g11, g12, g13, g14, g15, g16]))] s.heap := hP
  have hl := lv_entry ([.ref h0, .ref o]) (n := 3) (Nat.le_of_ble_eq_true rfl)
  rw [lg_entry_eq]
  generalize (lg_sl ([.ref h0, .ref o]) ++ List.replicate (3 - (lg_sl ([.ref h0, .ref o])).length) Slot.unset).toArray = ls at hl ⊢
  have hl : lv_has ls 3 [(0, .ref h0), (1, .ref o)] := hl
  refine lv_aload_n hx hb dL_prove_0 rfl (lv_at hl 1 rfl) ?_
  refine lv_iconst (v := 0) hx hb dL_prove_1 (by decide) ?_
  refine lv_aload_n hx hb dL_prove_2 rfl (lv_at hl 0 rfl) ?_
  have hPc := hP.sub (ws' := [(h0, .inr (11, [.ref a0, .ref a1, .ref a2, .ref a3, .int sl, f5, f6, f7, f8, f9, f10])), (a2, .inr (1, [.int 0, .int nv, .int nr, .int ng, .int nd, .int nc, g6, g7, g8, g9, .int pr, g11, g12, g13, g14, g15, g16]))]) [0, 1] rfl
  have hDc := hD.sub (ws' := [(h0, .inr (11, [.ref a0, .ref a1, .ref a2, .ref a3, .int sl, f5, f6, f7, f8, f9, f10])), (a2, .inr (1, [.int 0, .int nv, .int nr, .int ng, .int nd, .int nc, g6, g7, g8, g9, .int pr, g11, g12, g13, g14, g15, g16]))]) [0, 1] (by decide) rfl
  have hKc := hK.sub (tys' := []) [] rfl
  have hFc := va_free (wc := [(h0, .inr (11, [.ref a0, .ref a1, .ref a2, .ref a3, .int sl, f5, f6, f7, f8, f9, f10])), (a2, .inr (1, [.int 0, .int nv, .int nr, .int ng, .int nd, .int nc, g6, g7, g8, g9, .int pr, g11, g12, g13, g14, g15, g16]))]) hD hS hA [0, 1] rfl
  refine vx_calli (vx_runV (As := []) (rest := [.int 0, .ref o]) ⟨hx, hb, hml, hown, hts⟩ (x_X11_prove l hst dC dI h0 a0 a1 a2 a3 sl f5 f6 f7 f8 f9 f10 nv nr ng nd nc g6 g7 g8 g9 pr g11 g12 g13 g14 g15 g16 s.heap.size) (cwV 0 hts gFL_prove rfl rfl rfl (by decide +kernel) ⟨by decide +kernel, by decide +kernel⟩) ⟨fun a U g mk q => by obtain ⟨q0, q1, qP, qK, qD, qU, qN, qngX11_161⟩ := q; exact ⟨q0, q1, qP, va_K.moved (u := U) (U := U.calling g mk a) (Vm.Alike.refl U.vm) qK, qD, vx_Zq.moved (u := U) (U := U.calling g mk a) (Vm.Alike.refl U.vm) qU, vx_Zq.moved (u := U) (U := U.calling g mk a) (Vm.Alike.refl U.vm) qN, fun w h => va_Nw.same (u := U) (U := U.calling g mk a) (ngX11_161_ot w h) rfl (qngX11_161 w h)⟩, va_recv hKc hPc (ci := 11) (q0 := 0) rfl rfl, fun U hU9 hW => ⟨rfl, by rw [hU9], by rw [hU9]; exact hPc, va_K.moved hW.alike hKc, hDc.weaken (fun _ _ _ _ => trivial), by rw [hU9]; exact ((hU.kept (fun a h1 h2 => hS.2.1 a h1 h2)).narrow hFc).moved hW.alike, by rw [hU9]; exact ((hN.kept (fun a h1 h2 => hS.2.1 a h1 h2)).narrow hFc).moved hW.alike, fun w h => cd_warm (ngX11_161_cd w h) hW (hngX11_161 w h)⟩⟩ rfl rfl hl.1 rfl (lv_room (Nat.le_of_ble_eq_true rfl)) dL_prove_3 ⟨by decide +kernel, by decide +kernel⟩) hS (fun q _ h => hFc q h) hFc (fun q _ h => hFc q h) (fun E ce q9 u t H1 locs1 ht hvm hw hB hz1 hk1 hS hc1 hc2 hc3 => ?_) (fun r u t H1 locs1 ht hvm hw hB hz1 hk1 hS => hw.elim)
  obtain ⟨hE, hP1, hK1, hD1⟩ := hB
  subst hE
  rw [ht] at hP1
  have hK1 := va_K.moved hvm.symm hK1
  obtain ⟨hP, hD⟩ := va_join (wr := []) (w1 := [(h0, .inr (11, [.ref a0, .ref a1, .ref a2, .ref a3, .int sl, f5, f6, f7, f8, f9, f10])), (a2, .inr (1, [.int 0, .int nv, .int nr, .int ng, .int nd, .int nc, g6, g7, g8, g9, .int pr, g11, g12, g13, g14, g15, g16]))]) hP hD [0, 1] [] rfl rfl (by decide) (by decide) hk1 hFc hP1 hD1
  have hP := hP.sub (ws' := [(h0, .inr (11, [.ref a0, .ref a1, .ref a2, .ref a3, .int sl, f5, f6, f7, f8, f9, f10])), (a2, .inr (1, [.int 0, .int nv, .int nr, .int ng, .int nd, .int nc, g6, g7, g8, g9, .int pr, g11, g12, g13, g14, g15, g16]))]) [0, 1] rfl
  have hD := hD.sub (ws' := [(h0, .inr (11, [.ref a0, .ref a1, .ref a2, .ref a3, .int sl, f5, f6, f7, f8, f9, f10])), (a2, .inr (1, [.int 0, .int nv, .int nr, .int ng, .int nd, .int nc, g6, g7, g8, g9, .int pr, g11, g12, g13, g14, g15, g16]))]) [0, 1] (by decide) rfl
  refine vx_widen (k := 1) (n := 6) (by decide +kernel) (by decide +kernel) ?_
  obtain ⟨rfl, -⟩ := hw
  refine vx_catch (own := RL) (name := "java/lang/IllegalStateException") hown [] ⟨0, 8, 11, 32⟩ [] (by rw [htb]; rfl) (fun z hz => absurd hz List.not_mem_nil) (by decide) (by decide) (hts (.classLink RL 32 "java/lang/IllegalStateException") (by decide +kernel)) (va_Nw.use rfl (hngX11_161 (.castable "java/lang/IllegalStateException" "java/lang/IllegalStateException") (by decide +kernel))) hc1 hc2 hc3 ?_
  generalize H1 = H at hP hS hc1 ⊢
  refine lv_astore_n (lv' := [(2, .ref q9), (0, .ref h0), (1, .ref o)]) hx hb dL_prove_11 rfl hl (by decide) rfl (fun ls hl => ?_)
  refine lv_iconst (v := 1) hx hb dL_prove_12 (by decide) ?_
  refine vx_ret ?_
  refine W.widen (k := 1) (n := 6) (by decide +kernel) (by decide +kernel) ?_
  exact W.iret (v := 1) hx hb hr (fun t ht hW => ⟨⟨1, (), rfl, rfl, by rw [ht]; exact hP, va_K.moved hW.alike hK, hD⟩, hS.F ht⟩) hS.2.2 dL_prove_13
end
