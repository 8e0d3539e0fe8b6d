section
-- ===== PART A: goes FIRST, ahead of the names: the tables' words, and 'selects' of the private methods out of them =====
/-- a private method of a class that the tables say can be made, by its rows of tables_1 -/
def lw_okq (q : MethodName × Nat) : Prop := (q.1.cls ≠ "java/lang/invoke/MethodHandle" ∧ q.1.cls ≠ "java/lang/invoke/VarHandle") ∧ Cond.instantiable q.1.cls q.2 ∈ tables_1 ∧ Cond.privateMethod q.1 ∈ tables_1 ∧ Cond.instanceMethod q.1 ∈ tables_1
theorem lw_p0 : lw_okq (⟨"OptimaWorks", "theValues", "()LOptimaWorks$ValueDesk;"⟩, 11) := ⟨⟨by decide +kernel, by decide +kernel⟩, List.mem_of_getElem? (i := 31) (by decide +kernel), List.mem_of_getElem? (i := 291) (by decide +kernel), List.mem_of_getElem? (i := 292) (by decide +kernel)⟩
theorem lw_p1 : lw_okq (⟨"OptimaWorks$ValueDesk", "narrow", "(I)V"⟩, 20) := ⟨⟨by decide +kernel, by decide +kernel⟩, List.mem_of_getElem? (i := 295) (by decide +kernel), List.mem_of_getElem? (i := 378) (by decide +kernel), List.mem_of_getElem? (i := 379) (by decide +kernel)⟩
theorem lw_p2 : lw_okq (⟨"OptimaWorks$ValueDesk", "narrowBy", "(I)V"⟩, 20) := ⟨⟨by decide +kernel, by decide +kernel⟩, List.mem_of_getElem? (i := 295) (by decide +kernel), List.mem_of_getElem? (i := 383) (by decide +kernel), List.mem_of_getElem? (i := 384) (by decide +kernel)⟩
theorem lw_p3 : lw_okq (⟨"OptimaWorks$ValueDesk", "narrowDifferent", "(I)V"⟩, 20) := ⟨⟨by decide +kernel, by decide +kernel⟩, List.mem_of_getElem? (i := 295) (by decide +kernel), List.mem_of_getElem? (i := 387) (by decide +kernel), List.mem_of_getElem? (i := 388) (by decide +kernel)⟩
theorem lw_p4 : lw_okq (⟨"OptimaWorks$ValueDesk", "takeMembers", "(I)I"⟩, 20) := ⟨⟨by decide +kernel, by decide +kernel⟩, List.mem_of_getElem? (i := 295) (by decide +kernel), List.mem_of_getElem? (i := 391) (by decide +kernel), List.mem_of_getElem? (i := 392) (by decide +kernel)⟩
theorem lw_p5 : lw_okq (⟨"OptimaWorks$ValueDesk", "cutTo", "(II)V"⟩, 20) := ⟨⟨by decide +kernel, by decide +kernel⟩, List.mem_of_getElem? (i := 295) (by decide +kernel), List.mem_of_getElem? (i := 401) (by decide +kernel), List.mem_of_getElem? (i := 402) (by decide +kernel)⟩
theorem lw_p6 : lw_okq (⟨"OptimaWorks$ValueDesk", "narrowOrder", "(III)V"⟩, 20) := ⟨⟨by decide +kernel, by decide +kernel⟩, List.mem_of_getElem? (i := 295) (by decide +kernel), List.mem_of_getElem? (i := 405) (by decide +kernel), List.mem_of_getElem? (i := 406) (by decide +kernel)⟩
theorem lw_p7 : lw_okq (⟨"OptimaWorks$ValueDesk", "narrowSum", "(I)V"⟩, 20) := ⟨⟨by decide +kernel, by decide +kernel⟩, List.mem_of_getElem? (i := 295) (by decide +kernel), List.mem_of_getElem? (i := 416) (by decide +kernel), List.mem_of_getElem? (i := 417) (by decide +kernel)⟩
theorem lw_p8 : lw_okq (⟨"OptimaWorks$ValueDesk", "moveUp", "(II)V"⟩, 20) := ⟨⟨by decide +kernel, by decide +kernel⟩, List.mem_of_getElem? (i := 295) (by decide +kernel), List.mem_of_getElem? (i := 423) (by decide +kernel), List.mem_of_getElem? (i := 424) (by decide +kernel)⟩
theorem lw_p9 : lw_okq (⟨"OptimaWorks$ValueDesk", "moveDown", "(II)Z"⟩, 20) := ⟨⟨by decide +kernel, by decide +kernel⟩, List.mem_of_getElem? (i := 295) (by decide +kernel), List.mem_of_getElem? (i := 430) (by decide +kernel), List.mem_of_getElem? (i := 431) (by decide +kernel)⟩
theorem lw_p10 : lw_okq (⟨"OptimaWorks$ValueDesk", "narrowMost", "(I)V"⟩, 20) := ⟨⟨by decide +kernel, by decide +kernel⟩, List.mem_of_getElem? (i := 295) (by decide +kernel), List.mem_of_getElem? (i := 434) (by decide +kernel), List.mem_of_getElem? (i := 435) (by decide +kernel)⟩
theorem lw_p11 : lw_okq (⟨"OptimaWorks$ValueDesk", "narrowPairs", "(I)V"⟩, 20) := ⟨⟨by decide +kernel, by decide +kernel⟩, List.mem_of_getElem? (i := 295) (by decide +kernel), List.mem_of_getElem? (i := 438) (by decide +kernel), List.mem_of_getElem? (i := 439) (by decide +kernel)⟩
theorem lw_p12 : lw_okq (⟨"OptimaWorks$ValueDesk", "isAnyEmpty", "()Z"⟩, 20) := ⟨⟨by decide +kernel, by decide +kernel⟩, List.mem_of_getElem? (i := 295) (by decide +kernel), List.mem_of_getElem? (i := 442) (by decide +kernel), List.mem_of_getElem? (i := 443) (by decide +kernel)⟩
theorem lw_p13 : lw_okq (⟨"OptimaWorks$ValueDesk", "makeListing", "()V"⟩, 20) := ⟨⟨by decide +kernel, by decide +kernel⟩, List.mem_of_getElem? (i := 295) (by decide +kernel), List.mem_of_getElem? (i := 455) (by decide +kernel), List.mem_of_getElem? (i := 456) (by decide +kernel)⟩
theorem lw_p14 : lw_okq (⟨"OptimaWorks$ValueDesk", "isListable", "()Z"⟩, 20) := ⟨⟨by decide +kernel, by decide +kernel⟩, List.mem_of_getElem? (i := 295) (by decide +kernel), List.mem_of_getElem? (i := 459) (by decide +kernel), List.mem_of_getElem? (i := 460) (by decide +kernel)⟩
theorem lw_p15 : lw_okq (⟨"OptimaWorks$ValueDesk", "keepListed", "()V"⟩, 20) := ⟨⟨by decide +kernel, by decide +kernel⟩, List.mem_of_getElem? (i := 295) (by decide +kernel), List.mem_of_getElem? (i := 463) (by decide +kernel), List.mem_of_getElem? (i := 464) (by decide +kernel)⟩
def lw_privs_1 : List (MethodName × Nat) := [(⟨"OptimaWorks", "theValues", "()LOptimaWorks$ValueDesk;"⟩, 11), (⟨"OptimaWorks$ValueDesk", "narrow", "(I)V"⟩, 20), (⟨"OptimaWorks$ValueDesk", "narrowBy", "(I)V"⟩, 20), (⟨"OptimaWorks$ValueDesk", "narrowDifferent", "(I)V"⟩, 20), (⟨"OptimaWorks$ValueDesk", "takeMembers", "(I)I"⟩, 20), (⟨"OptimaWorks$ValueDesk", "cutTo", "(II)V"⟩, 20), (⟨"OptimaWorks$ValueDesk", "narrowOrder", "(III)V"⟩, 20), (⟨"OptimaWorks$ValueDesk", "narrowSum", "(I)V"⟩, 20), (⟨"OptimaWorks$ValueDesk", "moveUp", "(II)V"⟩, 20), (⟨"OptimaWorks$ValueDesk", "moveDown", "(II)Z"⟩, 20), (⟨"OptimaWorks$ValueDesk", "narrowMost", "(I)V"⟩, 20), (⟨"OptimaWorks$ValueDesk", "narrowPairs", "(I)V"⟩, 20), (⟨"OptimaWorks$ValueDesk", "isAnyEmpty", "()Z"⟩, 20), (⟨"OptimaWorks$ValueDesk", "makeListing", "()V"⟩, 20), (⟨"OptimaWorks$ValueDesk", "isListable", "()Z"⟩, 20), (⟨"OptimaWorks$ValueDesk", "keepListed", "()V"⟩, 20)]
theorem lw_r1 : ∀ q ∈ lw_privs_1, lw_okq q := List.forall_mem_cons.mpr ⟨lw_p0, List.forall_mem_cons.mpr ⟨lw_p1, List.forall_mem_cons.mpr ⟨lw_p2, List.forall_mem_cons.mpr ⟨lw_p3, List.forall_mem_cons.mpr ⟨lw_p4, List.forall_mem_cons.mpr ⟨lw_p5, List.forall_mem_cons.mpr ⟨lw_p6, List.forall_mem_cons.mpr ⟨lw_p7, List.forall_mem_cons.mpr ⟨lw_p8, List.forall_mem_cons.mpr ⟨lw_p9, List.forall_mem_cons.mpr ⟨lw_p10, List.forall_mem_cons.mpr ⟨lw_p11, List.forall_mem_cons.mpr ⟨lw_p12, List.forall_mem_cons.mpr ⟨lw_p13, List.forall_mem_cons.mpr ⟨lw_p14, List.forall_mem_cons.mpr ⟨lw_p15, fun _ h => absurd h List.not_mem_nil⟩⟩⟩⟩⟩⟩⟩⟩⟩⟩⟩⟩⟩⟩⟩⟩
theorem lw_p16 : lw_okq (⟨"OptimaWorks$ValueDesk", "nextValue", "(I)I"⟩, 20) := ⟨⟨by decide +kernel, by decide +kernel⟩, List.mem_of_getElem? (i := 295) (by decide +kernel), List.mem_of_getElem? (i := 476) (by decide +kernel), List.mem_of_getElem? (i := 477) (by decide +kernel)⟩
theorem lw_p17 : lw_okq (⟨"OptimaWorks$ValueDesk", "keepsAt", "(I)Z"⟩, 20) := ⟨⟨by decide +kernel, by decide +kernel⟩, List.mem_of_getElem? (i := 295) (by decide +kernel), List.mem_of_getElem? (i := 480) (by decide +kernel), List.mem_of_getElem? (i := 481) (by decide +kernel)⟩
theorem lw_p18 : lw_okq (⟨"OptimaWorks$ValueDesk", "keeps", "(I)Z"⟩, 20) := ⟨⟨by decide +kernel, by decide +kernel⟩, List.mem_of_getElem? (i := 295) (by decide +kernel), List.mem_of_getElem? (i := 484) (by decide +kernel), List.mem_of_getElem? (i := 485) (by decide +kernel)⟩
theorem lw_p19 : lw_okq (⟨"OptimaWorks$ValueDesk", "change", "()V"⟩, 20) := ⟨⟨by decide +kernel, by decide +kernel⟩, List.mem_of_getElem? (i := 295) (by decide +kernel), List.mem_of_getElem? (i := 516) (by decide +kernel), List.mem_of_getElem? (i := 517) (by decide +kernel)⟩
theorem lw_p20 : lw_okq (⟨"OptimaWorks", "theClauses", "()LOptimaWorks$ClauseDesk;"⟩, 11) := ⟨⟨by decide +kernel, by decide +kernel⟩, List.mem_of_getElem? (i := 31) (by decide +kernel), List.mem_of_getElem? (i := 524) (by decide +kernel), List.mem_of_getElem? (i := 525) (by decide +kernel)⟩
theorem lw_p21 : lw_okq (⟨"OptimaWorks$ClauseDesk", "mark", "(II)V"⟩, 7) := ⟨⟨by decide +kernel, by decide +kernel⟩, List.mem_of_getElem? (i := 528) (by decide +kernel), List.mem_of_getElem? (i := 561) (by decide +kernel), List.mem_of_getElem? (i := 562) (by decide +kernel)⟩
theorem lw_p22 : lw_okq (⟨"OptimaWorks$ClauseDesk", "canKeep", "(I)Z"⟩, 7) := ⟨⟨by decide +kernel, by decide +kernel⟩, List.mem_of_getElem? (i := 528) (by decide +kernel), List.mem_of_getElem? (i := 581) (by decide +kernel), List.mem_of_getElem? (i := 582) (by decide +kernel)⟩
theorem lw_p23 : lw_okq (⟨"OptimaWorks", "theNets", "()LOptimaWorks$NetDesk;"⟩, 11) := ⟨⟨by decide +kernel, by decide +kernel⟩, List.mem_of_getElem? (i := 31) (by decide +kernel), List.mem_of_getElem? (i := 589) (by decide +kernel), List.mem_of_getElem? (i := 590) (by decide +kernel)⟩
theorem lw_p24 : lw_okq (⟨"OptimaWorks$NetDesk", "cheapestUnseen", "(J)I"⟩, 14) := ⟨⟨by decide +kernel, by decide +kernel⟩, List.mem_of_getElem? (i := 593) (by decide +kernel), List.mem_of_getElem? (i := 656) (by decide +kernel), List.mem_of_getElem? (i := 657) (by decide +kernel)⟩
theorem lw_p25 : lw_okq (⟨"OptimaWorks$Reader", "makeRoom", "()V"⟩, 11) := ⟨⟨by decide +kernel, by decide +kernel⟩, List.mem_of_getElem? (i := 681) (by decide +kernel), List.mem_of_getElem? (i := 800) (by decide +kernel), List.mem_of_getElem? (i := 801) (by decide +kernel)⟩
theorem lw_p26 : lw_okq (⟨"OptimaWorks$Words", "skipBlanks", "()V"⟩, 9) := ⟨⟨by decide +kernel, by decide +kernel⟩, List.mem_of_getElem? (i := 39) (by decide +kernel), List.mem_of_getElem? (i := 818) (by decide +kernel), List.mem_of_getElem? (i := 819) (by decide +kernel)⟩
theorem lw_p27 : lw_okq (⟨"OptimaWorks$Words", "takeName", "()V"⟩, 9) := ⟨⟨by decide +kernel, by decide +kernel⟩, List.mem_of_getElem? (i := 39) (by decide +kernel), List.mem_of_getElem? (i := 822) (by decide +kernel), List.mem_of_getElem? (i := 823) (by decide +kernel)⟩
theorem lw_p28 : lw_okq (⟨"OptimaWorks$Words", "keywordOf", "(I)I"⟩, 9) := ⟨⟨by decide +kernel, by decide +kernel⟩, List.mem_of_getElem? (i := 39) (by decide +kernel), List.mem_of_getElem? (i := 826) (by decide +kernel), List.mem_of_getElem? (i := 827) (by decide +kernel)⟩
theorem lw_p29 : lw_okq (⟨"OptimaWorks$Words", "takeNumber", "()V"⟩, 9) := ⟨⟨by decide +kernel, by decide +kernel⟩, List.mem_of_getElem? (i := 39) (by decide +kernel), List.mem_of_getElem? (i := 879) (by decide +kernel), List.mem_of_getElem? (i := 880) (by decide +kernel)⟩
theorem lw_p30 : lw_okq (⟨"OptimaWorks$Words", "takeSign", "(I)V"⟩, 9) := ⟨⟨by decide +kernel, by decide +kernel⟩, List.mem_of_getElem? (i := 39) (by decide +kernel), List.mem_of_getElem? (i := 883) (by decide +kernel), List.mem_of_getElem? (i := 884) (by decide +kernel)⟩
theorem lw_p31 : lw_okq (⟨"OptimaWorks$Reader", "readSet", "()V"⟩, 11) := ⟨⟨by decide +kernel, by decide +kernel⟩, List.mem_of_getElem? (i := 681) (by decide +kernel), List.mem_of_getElem? (i := 947) (by decide +kernel), List.mem_of_getElem? (i := 948) (by decide +kernel)⟩
def lw_privs_2 : List (MethodName × Nat) := [(⟨"OptimaWorks$ValueDesk", "nextValue", "(I)I"⟩, 20), (⟨"OptimaWorks$ValueDesk", "keepsAt", "(I)Z"⟩, 20), (⟨"OptimaWorks$ValueDesk", "keeps", "(I)Z"⟩, 20), (⟨"OptimaWorks$ValueDesk", "change", "()V"⟩, 20), (⟨"OptimaWorks", "theClauses", "()LOptimaWorks$ClauseDesk;"⟩, 11), (⟨"OptimaWorks$ClauseDesk", "mark", "(II)V"⟩, 7), (⟨"OptimaWorks$ClauseDesk", "canKeep", "(I)Z"⟩, 7), (⟨"OptimaWorks", "theNets", "()LOptimaWorks$NetDesk;"⟩, 11), (⟨"OptimaWorks$NetDesk", "cheapestUnseen", "(J)I"⟩, 14), (⟨"OptimaWorks$Reader", "makeRoom", "()V"⟩, 11), (⟨"OptimaWorks$Words", "skipBlanks", "()V"⟩, 9), (⟨"OptimaWorks$Words", "takeName", "()V"⟩, 9), (⟨"OptimaWorks$Words", "keywordOf", "(I)I"⟩, 9), (⟨"OptimaWorks$Words", "takeNumber", "()V"⟩, 9), (⟨"OptimaWorks$Words", "takeSign", "(I)V"⟩, 9), (⟨"OptimaWorks$Reader", "readSet", "()V"⟩, 11)]
theorem lw_r2 : ∀ q ∈ lw_privs_2, lw_okq q := List.forall_mem_cons.mpr ⟨lw_p16, List.forall_mem_cons.mpr ⟨lw_p17, List.forall_mem_cons.mpr ⟨lw_p18, List.forall_mem_cons.mpr ⟨lw_p19, List.forall_mem_cons.mpr ⟨lw_p20, List.forall_mem_cons.mpr ⟨lw_p21, List.forall_mem_cons.mpr ⟨lw_p22, List.forall_mem_cons.mpr ⟨lw_p23, List.forall_mem_cons.mpr ⟨lw_p24, List.forall_mem_cons.mpr ⟨lw_p25, List.forall_mem_cons.mpr ⟨lw_p26, List.forall_mem_cons.mpr ⟨lw_p27, List.forall_mem_cons.mpr ⟨lw_p28, List.forall_mem_cons.mpr ⟨lw_p29, List.forall_mem_cons.mpr ⟨lw_p30, List.forall_mem_cons.mpr ⟨lw_p31, fun _ h => absurd h List.not_mem_nil⟩⟩⟩⟩⟩⟩⟩⟩⟩⟩⟩⟩⟩⟩⟩⟩
theorem lw_p32 : lw_okq (⟨"OptimaWorks$Reader", "takeNewName", "()V"⟩, 11) := ⟨⟨by decide +kernel, by decide +kernel⟩, List.mem_of_getElem? (i := 681) (by decide +kernel), List.mem_of_getElem? (i := 952) (by decide +kernel), List.mem_of_getElem? (i := 953) (by decide +kernel)⟩
theorem lw_p33 : lw_okq (⟨"java/lang/Throwable", "fillInStackTrace", "(I)Ljava/lang/Throwable;"⟩, 6) := ⟨⟨by decide +kernel, by decide +kernel⟩, List.mem_of_getElem? (i := 998) (by decide +kernel), List.mem_of_getElem? (i := 996) (by decide +kernel), List.mem_of_getElem? (i := 997) (by decide +kernel)⟩
theorem lw_p34 : lw_okq (⟨"OptimaWorks$Reader", "takeWholeNumber", "()I"⟩, 11) := ⟨⟨by decide +kernel, by decide +kernel⟩, List.mem_of_getElem? (i := 681) (by decide +kernel), List.mem_of_getElem? (i := 1036) (by decide +kernel), List.mem_of_getElem? (i := 1037) (by decide +kernel)⟩
theorem lw_p35 : lw_okq (⟨"OptimaWorks$Reader", "readParam", "()V"⟩, 11) := ⟨⟨by decide +kernel, by decide +kernel⟩, List.mem_of_getElem? (i := 681) (by decide +kernel), List.mem_of_getElem? (i := 1048) (by decide +kernel), List.mem_of_getElem? (i := 1049) (by decide +kernel)⟩
theorem lw_p36 : lw_okq (⟨"OptimaWorks$Reader", "takePlaces", "()V"⟩, 11) := ⟨⟨by decide +kernel, by decide +kernel⟩, List.mem_of_getElem? (i := 681) (by decide +kernel), List.mem_of_getElem? (i := 1052) (by decide +kernel), List.mem_of_getElem? (i := 1053) (by decide +kernel)⟩
theorem lw_p37 : lw_okq (⟨"OptimaWorks$Reader", "takeSetName", "()I"⟩, 11) := ⟨⟨by decide +kernel, by decide +kernel⟩, List.mem_of_getElem? (i := 681) (by decide +kernel), List.mem_of_getElem? (i := 1056) (by decide +kernel), List.mem_of_getElem? (i := 1057) (by decide +kernel)⟩
theorem lw_p38 : lw_okq (⟨"OptimaWorks$Reader", "linear", "()I"⟩, 11) := ⟨⟨by decide +kernel, by decide +kernel⟩, List.mem_of_getElem? (i := 681) (by decide +kernel), List.mem_of_getElem? (i := 1064) (by decide +kernel), List.mem_of_getElem? (i := 1065) (by decide +kernel)⟩
theorem lw_p39 : lw_okq (⟨"OptimaWorks$Reader", "deeper", "(Z)V"⟩, 11) := ⟨⟨by decide +kernel, by decide +kernel⟩, List.mem_of_getElem? (i := 681) (by decide +kernel), List.mem_of_getElem? (i := 1068) (by decide +kernel), List.mem_of_getElem? (i := 1069) (by decide +kernel)⟩
theorem lw_p40 : lw_okq (⟨"OptimaWorks$Reader", "refuseNoFactor", "()V"⟩, 11) := ⟨⟨by decide +kernel, by decide +kernel⟩, List.mem_of_getElem? (i := 681) (by decide +kernel), List.mem_of_getElem? (i := 1072) (by decide +kernel), List.mem_of_getElem? (i := 1073) (by decide +kernel)⟩
theorem lw_p41 : lw_okq (⟨"OptimaWorks$Reader", "findBinder", "(J)I"⟩, 11) := ⟨⟨by decide +kernel, by decide +kernel⟩, List.mem_of_getElem? (i := 681) (by decide +kernel), List.mem_of_getElem? (i := 1076) (by decide +kernel), List.mem_of_getElem? (i := 1077) (by decide +kernel)⟩
theorem lw_p42 : lw_okq (⟨"OptimaWorks$Reader", "node", "(I)I"⟩, 11) := ⟨⟨by decide +kernel, by decide +kernel⟩, List.mem_of_getElem? (i := 681) (by decide +kernel), List.mem_of_getElem? (i := 1084) (by decide +kernel), List.mem_of_getElem? (i := 1085) (by decide +kernel)⟩
theorem lw_p43 : lw_okq (⟨"OptimaWorks$Reader", "term", "()I"⟩, 11) := ⟨⟨by decide +kernel, by decide +kernel⟩, List.mem_of_getElem? (i := 681) (by decide +kernel), List.mem_of_getElem? (i := 1088) (by decide +kernel), List.mem_of_getElem? (i := 1089) (by decide +kernel)⟩
theorem lw_p44 : lw_okq (⟨"OptimaWorks$Reader", "factor", "()I"⟩, 11) := ⟨⟨by decide +kernel, by decide +kernel⟩, List.mem_of_getElem? (i := 681) (by decide +kernel), List.mem_of_getElem? (i := 1092) (by decide +kernel), List.mem_of_getElem? (i := 1093) (by decide +kernel)⟩
theorem lw_p45 : lw_okq (⟨"OptimaWorks$Reader", "named", "()I"⟩, 11) := ⟨⟨by decide +kernel, by decide +kernel⟩, List.mem_of_getElem? (i := 681) (by decide +kernel), List.mem_of_getElem? (i := 1096) (by decide +kernel), List.mem_of_getElem? (i := 1097) (by decide +kernel)⟩
theorem lw_p46 : lw_okq (⟨"OptimaWorks$Reader", "summed", "()I"⟩, 11) := ⟨⟨by decide +kernel, by decide +kernel⟩, List.mem_of_getElem? (i := 681) (by decide +kernel), List.mem_of_getElem? (i := 1100) (by decide +kernel), List.mem_of_getElem? (i := 1101) (by decide +kernel)⟩
theorem lw_p47 : lw_okq (⟨"OptimaWorks$Reader", "binding", "()I"⟩, 11) := ⟨⟨by decide +kernel, by decide +kernel⟩, List.mem_of_getElem? (i := 681) (by decide +kernel), List.mem_of_getElem? (i := 1104) (by decide +kernel), List.mem_of_getElem? (i := 1105) (by decide +kernel)⟩
def lw_privs_3 : List (MethodName × Nat) := [(⟨"OptimaWorks$Reader", "takeNewName", "()V"⟩, 11), (⟨"java/lang/Throwable", "fillInStackTrace", "(I)Ljava/lang/Throwable;"⟩, 6), (⟨"OptimaWorks$Reader", "takeWholeNumber", "()I"⟩, 11), (⟨"OptimaWorks$Reader", "readParam", "()V"⟩, 11), (⟨"OptimaWorks$Reader", "takePlaces", "()V"⟩, 11), (⟨"OptimaWorks$Reader", "takeSetName", "()I"⟩, 11), (⟨"OptimaWorks$Reader", "linear", "()I"⟩, 11), (⟨"OptimaWorks$Reader", "deeper", "(Z)V"⟩, 11), (⟨"OptimaWorks$Reader", "refuseNoFactor", "()V"⟩, 11), (⟨"OptimaWorks$Reader", "findBinder", "(J)I"⟩, 11), (⟨"OptimaWorks$Reader", "node", "(I)I"⟩, 11), (⟨"OptimaWorks$Reader", "term", "()I"⟩, 11), (⟨"OptimaWorks$Reader", "factor", "()I"⟩, 11), (⟨"OptimaWorks$Reader", "named", "()I"⟩, 11), (⟨"OptimaWorks$Reader", "summed", "()I"⟩, 11), (⟨"OptimaWorks$Reader", "binding", "()I"⟩, 11)]
theorem lw_r3 : ∀ q ∈ lw_privs_3, lw_okq q := List.forall_mem_cons.mpr ⟨lw_p32, List.forall_mem_cons.mpr ⟨lw_p33, List.forall_mem_cons.mpr ⟨lw_p34, List.forall_mem_cons.mpr ⟨lw_p35, List.forall_mem_cons.mpr ⟨lw_p36, List.forall_mem_cons.mpr ⟨lw_p37, List.forall_mem_cons.mpr ⟨lw_p38, List.forall_mem_cons.mpr ⟨lw_p39, List.forall_mem_cons.mpr ⟨lw_p40, List.forall_mem_cons.mpr ⟨lw_p41, List.forall_mem_cons.mpr ⟨lw_p42, List.forall_mem_cons.mpr ⟨lw_p43, List.forall_mem_cons.mpr ⟨lw_p44, List.forall_mem_cons.mpr ⟨lw_p45, List.forall_mem_cons.mpr ⟨lw_p46, List.forall_mem_cons.mpr ⟨lw_p47, fun _ h => absurd h List.not_mem_nil⟩⟩⟩⟩⟩⟩⟩⟩⟩⟩⟩⟩⟩⟩⟩⟩
theorem lw_p48 : lw_okq (⟨"OptimaWorks$Reader", "addBinder", "()V"⟩, 11) := ⟨⟨by decide +kernel, by decide +kernel⟩, List.mem_of_getElem? (i := 681) (by decide +kernel), List.mem_of_getElem? (i := 1108) (by decide +kernel), List.mem_of_getElem? (i := 1109) (by decide +kernel)⟩
theorem lw_p49 : lw_okq (⟨"OptimaWorks$Reader", "anyOf", "()I"⟩, 11) := ⟨⟨by decide +kernel, by decide +kernel⟩, List.mem_of_getElem? (i := 681) (by decide +kernel), List.mem_of_getElem? (i := 1112) (by decide +kernel), List.mem_of_getElem? (i := 1113) (by decide +kernel)⟩
theorem lw_p50 : lw_okq (⟨"OptimaWorks$Reader", "allOf", "()I"⟩, 11) := ⟨⟨by decide +kernel, by decide +kernel⟩, List.mem_of_getElem? (i := 681) (by decide +kernel), List.mem_of_getElem? (i := 1116) (by decide +kernel), List.mem_of_getElem? (i := 1117) (by decide +kernel)⟩
theorem lw_p51 : lw_okq (⟨"OptimaWorks$Reader", "oneOf", "()I"⟩, 11) := ⟨⟨by decide +kernel, by decide +kernel⟩, List.mem_of_getElem? (i := 681) (by decide +kernel), List.mem_of_getElem? (i := 1120) (by decide +kernel), List.mem_of_getElem? (i := 1121) (by decide +kernel)⟩
theorem lw_p52 : lw_okq (⟨"OptimaWorks$Reader", "comparison", "(Z)I"⟩, 11) := ⟨⟨by decide +kernel, by decide +kernel⟩, List.mem_of_getElem? (i := 681) (by decide +kernel), List.mem_of_getElem? (i := 1124) (by decide +kernel), List.mem_of_getElem? (i := 1125) (by decide +kernel)⟩
theorem lw_p53 : lw_okq (⟨"OptimaWorks$Reader", "link", "(IIII)V"⟩, 11) := ⟨⟨by decide +kernel, by decide +kernel⟩, List.mem_of_getElem? (i := 681) (by decide +kernel), List.mem_of_getElem? (i := 1128) (by decide +kernel), List.mem_of_getElem? (i := 1129) (by decide +kernel)⟩
theorem lw_p54 : lw_okq (⟨"OptimaWorks$Worker", "number", "(II)V"⟩, 20) := ⟨⟨by decide +kernel, by decide +kernel⟩, List.mem_of_getElem? (i := 687) (by decide +kernel), List.mem_of_getElem? (i := 1136) (by decide +kernel), List.mem_of_getElem? (i := 1137) (by decide +kernel)⟩
theorem lw_p55 : lw_okq (⟨"OptimaWorks$Worker", "linear", "(II)V"⟩, 20) := ⟨⟨by decide +kernel, by decide +kernel⟩, List.mem_of_getElem? (i := 687) (by decide +kernel), List.mem_of_getElem? (i := 1140) (by decide +kernel), List.mem_of_getElem? (i := 1141) (by decide +kernel)⟩
theorem lw_p56 : lw_okq (⟨"OptimaWorks$Worker", "term", "(II)V"⟩, 20) := ⟨⟨by decide +kernel, by decide +kernel⟩, List.mem_of_getElem? (i := 687) (by decide +kernel), List.mem_of_getElem? (i := 1144) (by decide +kernel), List.mem_of_getElem? (i := 1145) (by decide +kernel)⟩
theorem lw_p57 : lw_okq (⟨"OptimaWorks$Worker", "factor", "(II)V"⟩, 20) := ⟨⟨by decide +kernel, by decide +kernel⟩, List.mem_of_getElem? (i := 687) (by decide +kernel), List.mem_of_getElem? (i := 1148) (by decide +kernel), List.mem_of_getElem? (i := 1149) (by decide +kernel)⟩
theorem lw_p58 : lw_okq (⟨"OptimaWorks$Worker", "step", "()V"⟩, 20) := ⟨⟨by decide +kernel, by decide +kernel⟩, List.mem_of_getElem? (i := 687) (by decide +kernel), List.mem_of_getElem? (i := 1152) (by decide +kernel), List.mem_of_getElem? (i := 1153) (by decide +kernel)⟩
theorem lw_p59 : lw_okq (⟨"OptimaWorks$Worker", "setNumber", "(IJJ)V"⟩, 20) := ⟨⟨by decide +kernel, by decide +kernel⟩, List.mem_of_getElem? (i := 687) (by decide +kernel), List.mem_of_getElem? (i := 1157) (by decide +kernel), List.mem_of_getElem? (i := 1158) (by decide +kernel)⟩
theorem lw_p60 : lw_okq (⟨"OptimaWorks$Worker", "lookUp", "(II)V"⟩, 20) := ⟨⟨by decide +kernel, by decide +kernel⟩, List.mem_of_getElem? (i := 687) (by decide +kernel), List.mem_of_getElem? (i := 1161) (by decide +kernel), List.mem_of_getElem? (i := 1162) (by decide +kernel)⟩
theorem lw_p61 : lw_okq (⟨"OptimaWorks$Worker", "place", "(III)I"⟩, 20) := ⟨⟨by decide +kernel, by decide +kernel⟩, List.mem_of_getElem? (i := 687) (by decide +kernel), List.mem_of_getElem? (i := 1165) (by decide +kernel), List.mem_of_getElem? (i := 1166) (by decide +kernel)⟩
theorem lw_p62 : lw_okq (⟨"OptimaWorks$Worker", "turn", "(I)V"⟩, 20) := ⟨⟨by decide +kernel, by decide +kernel⟩, List.mem_of_getElem? (i := 687) (by decide +kernel), List.mem_of_getElem? (i := 1169) (by decide +kernel), List.mem_of_getElem? (i := 1170) (by decide +kernel)⟩
theorem lw_p63 : lw_okq (⟨"OptimaWorks$Worker", "sum", "(II)V"⟩, 20) := ⟨⟨by decide +kernel, by decide +kernel⟩, List.mem_of_getElem? (i := 687) (by decide +kernel), List.mem_of_getElem? (i := 1173) (by decide +kernel), List.mem_of_getElem? (i := 1174) (by decide +kernel)⟩
def lw_privs_4 : List (MethodName × Nat) := [(⟨"OptimaWorks$Reader", "addBinder", "()V"⟩, 11), (⟨"OptimaWorks$Reader", "anyOf", "()I"⟩, 11), (⟨"OptimaWorks$Reader", "allOf", "()I"⟩, 11), (⟨"OptimaWorks$Reader", "oneOf", "()I"⟩, 11), (⟨"OptimaWorks$Reader", "comparison", "(Z)I"⟩, 11), (⟨"OptimaWorks$Reader", "link", "(IIII)V"⟩, 11), (⟨"OptimaWorks$Worker", "number", "(II)V"⟩, 20), (⟨"OptimaWorks$Worker", "linear", "(II)V"⟩, 20), (⟨"OptimaWorks$Worker", "term", "(II)V"⟩, 20), (⟨"OptimaWorks$Worker", "factor", "(II)V"⟩, 20), (⟨"OptimaWorks$Worker", "step", "()V"⟩, 20), (⟨"OptimaWorks$Worker", "setNumber", "(IJJ)V"⟩, 20), (⟨"OptimaWorks$Worker", "lookUp", "(II)V"⟩, 20), (⟨"OptimaWorks$Worker", "place", "(III)I"⟩, 20), (⟨"OptimaWorks$Worker", "turn", "(I)V"⟩, 20), (⟨"OptimaWorks$Worker", "sum", "(II)V"⟩, 20)]
theorem lw_r4 : ∀ q ∈ lw_privs_4, lw_okq q := List.forall_mem_cons.mpr ⟨lw_p48, List.forall_mem_cons.mpr ⟨lw_p49, List.forall_mem_cons.mpr ⟨lw_p50, List.forall_mem_cons.mpr ⟨lw_p51, List.forall_mem_cons.mpr ⟨lw_p52, List.forall_mem_cons.mpr ⟨lw_p53, List.forall_mem_cons.mpr ⟨lw_p54, List.forall_mem_cons.mpr ⟨lw_p55, List.forall_mem_cons.mpr ⟨lw_p56, List.forall_mem_cons.mpr ⟨lw_p57, List.forall_mem_cons.mpr ⟨lw_p58, List.forall_mem_cons.mpr ⟨lw_p59, List.forall_mem_cons.mpr ⟨lw_p60, List.forall_mem_cons.mpr ⟨lw_p61, List.forall_mem_cons.mpr ⟨lw_p62, List.forall_mem_cons.mpr ⟨lw_p63, fun _ h => absurd h List.not_mem_nil⟩⟩⟩⟩⟩⟩⟩⟩⟩⟩⟩⟩⟩⟩⟩⟩
theorem lw_p64 : lw_okq (⟨"OptimaWorks$Worker", "boundMembers", "(I)I"⟩, 20) := ⟨⟨by decide +kernel, by decide +kernel⟩, List.mem_of_getElem? (i := 687) (by decide +kernel), List.mem_of_getElem? (i := 1177) (by decide +kernel), List.mem_of_getElem? (i := 1178) (by decide +kernel)⟩
theorem lw_p65 : lw_okq (⟨"OptimaWorks$Worker", "bind", "(II)V"⟩, 20) := ⟨⟨by decide +kernel, by decide +kernel⟩, List.mem_of_getElem? (i := 687) (by decide +kernel), List.mem_of_getElem? (i := 1182) (by decide +kernel), List.mem_of_getElem? (i := 1183) (by decide +kernel)⟩
theorem lw_p66 : lw_okq (⟨"OptimaWorks$Worker", "anyHolds", "(II)Z"⟩, 20) := ⟨⟨by decide +kernel, by decide +kernel⟩, List.mem_of_getElem? (i := 687) (by decide +kernel), List.mem_of_getElem? (i := 1186) (by decide +kernel), List.mem_of_getElem? (i := 1187) (by decide +kernel)⟩
theorem lw_p67 : lw_okq (⟨"OptimaWorks$Worker", "allHold", "(II)Z"⟩, 20) := ⟨⟨by decide +kernel, by decide +kernel⟩, List.mem_of_getElem? (i := 687) (by decide +kernel), List.mem_of_getElem? (i := 1190) (by decide +kernel), List.mem_of_getElem? (i := 1191) (by decide +kernel)⟩
theorem lw_p68 : lw_okq (⟨"OptimaWorks$Worker", "oneHolds", "(II)Z"⟩, 20) := ⟨⟨by decide +kernel, by decide +kernel⟩, List.mem_of_getElem? (i := 687) (by decide +kernel), List.mem_of_getElem? (i := 1194) (by decide +kernel), List.mem_of_getElem? (i := 1195) (by decide +kernel)⟩
theorem lw_p69 : lw_okq (⟨"OptimaWorks$Worker", "compares", "(II)Z"⟩, 20) := ⟨⟨by decide +kernel, by decide +kernel⟩, List.mem_of_getElem? (i := 687) (by decide +kernel), List.mem_of_getElem? (i := 1198) (by decide +kernel), List.mem_of_getElem? (i := 1199) (by decide +kernel)⟩
theorem lw_p70 : lw_okq (⟨"OptimaWorks$Worker", "join", "(IZI)V"⟩, 20) := ⟨⟨by decide +kernel, by decide +kernel⟩, List.mem_of_getElem? (i := 687) (by decide +kernel), List.mem_of_getElem? (i := 1205) (by decide +kernel), List.mem_of_getElem? (i := 1206) (by decide +kernel)⟩
theorem lw_p71 : lw_okq (⟨"OptimaWorks$Worker", "setFraction", "(IJJI)V"⟩, 20) := ⟨⟨by decide +kernel, by decide +kernel⟩, List.mem_of_getElem? (i := 687) (by decide +kernel), List.mem_of_getElem? (i := 1209) (by decide +kernel), List.mem_of_getElem? (i := 1210) (by decide +kernel)⟩
theorem lw_p72 : lw_okq (⟨"OptimaWorks$Worker", "multiply", "(II)V"⟩, 20) := ⟨⟨by decide +kernel, by decide +kernel⟩, List.mem_of_getElem? (i := 687) (by decide +kernel), List.mem_of_getElem? (i := 1221) (by decide +kernel), List.mem_of_getElem? (i := 1222) (by decide +kernel)⟩
theorem lw_p73 : lw_okq (⟨"OptimaWorks$Worker", "hasVariables", "(I)Z"⟩, 20) := ⟨⟨by decide +kernel, by decide +kernel⟩, List.mem_of_getElem? (i := 687) (by decide +kernel), List.mem_of_getElem? (i := 1225) (by decide +kernel), List.mem_of_getElem? (i := 1226) (by decide +kernel)⟩
theorem lw_p74 : lw_okq (⟨"OptimaWorks$Worker", "divide", "(II)V"⟩, 20) := ⟨⟨by decide +kernel, by decide +kernel⟩, List.mem_of_getElem? (i := 687) (by decide +kernel), List.mem_of_getElem? (i := 1229) (by decide +kernel), List.mem_of_getElem? (i := 1230) (by decide +kernel)⟩
theorem lw_p75 : lw_okq (⟨"OptimaWorks$Reader", "readVar", "()V"⟩, 11) := ⟨⟨by decide +kernel, by decide +kernel⟩, List.mem_of_getElem? (i := 681) (by decide +kernel), List.mem_of_getElem? (i := 1233) (by decide +kernel), List.mem_of_getElem? (i := 1234) (by decide +kernel)⟩
theorem lw_p76 : lw_okq (⟨"OptimaWorks$Worker", "farEnd", "(I)I"⟩, 20) := ⟨⟨by decide +kernel, by decide +kernel⟩, List.mem_of_getElem? (i := 687) (by decide +kernel), List.mem_of_getElem? (i := 1241) (by decide +kernel), List.mem_of_getElem? (i := 1242) (by decide +kernel)⟩
theorem lw_p77 : lw_okq (⟨"OptimaWorks$Worker", "multiplyCases", "(I)V"⟩, 20) := ⟨⟨by decide +kernel, by decide +kernel⟩, List.mem_of_getElem? (i := 687) (by decide +kernel), List.mem_of_getElem? (i := 1247) (by decide +kernel), List.mem_of_getElem? (i := 1248) (by decide +kernel)⟩
theorem lw_p78 : lw_okq (⟨"OptimaWorks$Reader", "readRow", "()V"⟩, 11) := ⟨⟨by decide +kernel, by decide +kernel⟩, List.mem_of_getElem? (i := 681) (by decide +kernel), List.mem_of_getElem? (i := 1251) (by decide +kernel), List.mem_of_getElem? (i := 1252) (by decide +kernel)⟩
theorem lw_p79 : lw_okq (⟨"OptimaWorks$Worker", "keepWay", "(III)V"⟩, 20) := ⟨⟨by decide +kernel, by decide +kernel⟩, List.mem_of_getElem? (i := 687) (by decide +kernel), List.mem_of_getElem? (i := 1263) (by decide +kernel), List.mem_of_getElem? (i := 1264) (by decide +kernel)⟩
def lw_privs_5 : List (MethodName × Nat) := [(⟨"OptimaWorks$Worker", "boundMembers", "(I)I"⟩, 20), (⟨"OptimaWorks$Worker", "bind", "(II)V"⟩, 20), (⟨"OptimaWorks$Worker", "anyHolds", "(II)Z"⟩, 20), (⟨"OptimaWorks$Worker", "allHold", "(II)Z"⟩, 20), (⟨"OptimaWorks$Worker", "oneHolds", "(II)Z"⟩, 20), (⟨"OptimaWorks$Worker", "compares", "(II)Z"⟩, 20), (⟨"OptimaWorks$Worker", "join", "(IZI)V"⟩, 20), (⟨"OptimaWorks$Worker", "setFraction", "(IJJI)V"⟩, 20), (⟨"OptimaWorks$Worker", "multiply", "(II)V"⟩, 20), (⟨"OptimaWorks$Worker", "hasVariables", "(I)Z"⟩, 20), (⟨"OptimaWorks$Worker", "divide", "(II)V"⟩, 20), (⟨"OptimaWorks$Reader", "readVar", "()V"⟩, 11), (⟨"OptimaWorks$Worker", "farEnd", "(I)I"⟩, 20), (⟨"OptimaWorks$Worker", "multiplyCases", "(I)V"⟩, 20), (⟨"OptimaWorks$Reader", "readRow", "()V"⟩, 11), (⟨"OptimaWorks$Worker", "keepWay", "(III)V"⟩, 20)]
theorem lw_r5 : ∀ q ∈ lw_privs_5, lw_okq q := List.forall_mem_cons.mpr ⟨lw_p64, List.forall_mem_cons.mpr ⟨lw_p65, List.forall_mem_cons.mpr ⟨lw_p66, List.forall_mem_cons.mpr ⟨lw_p67, List.forall_mem_cons.mpr ⟨lw_p68, List.forall_mem_cons.mpr ⟨lw_p69, List.forall_mem_cons.mpr ⟨lw_p70, List.forall_mem_cons.mpr ⟨lw_p71, List.forall_mem_cons.mpr ⟨lw_p72, List.forall_mem_cons.mpr ⟨lw_p73, List.forall_mem_cons.mpr ⟨lw_p74, List.forall_mem_cons.mpr ⟨lw_p75, List.forall_mem_cons.mpr ⟨lw_p76, List.forall_mem_cons.mpr ⟨lw_p77, List.forall_mem_cons.mpr ⟨lw_p78, List.forall_mem_cons.mpr ⟨lw_p79, fun _ h => absurd h List.not_mem_nil⟩⟩⟩⟩⟩⟩⟩⟩⟩⟩⟩⟩⟩⟩⟩⟩
theorem lw_p80 : lw_okq (⟨"OptimaWorks$Worker", "leaveDifference", "(I)V"⟩, 20) := ⟨⟨by decide +kernel, by decide +kernel⟩, List.mem_of_getElem? (i := 687) (by decide +kernel), List.mem_of_getElem? (i := 1271) (by decide +kernel), List.mem_of_getElem? (i := 1272) (by decide +kernel)⟩
theorem lw_p81 : lw_okq (⟨"OptimaWorks$Worker", "scaled", "(IIII)I"⟩, 20) := ⟨⟨by decide +kernel, by decide +kernel⟩, List.mem_of_getElem? (i := 687) (by decide +kernel), List.mem_of_getElem? (i := 1275) (by decide +kernel), List.mem_of_getElem? (i := 1276) (by decide +kernel)⟩
theorem lw_p82 : lw_okq (⟨"OptimaWorks$Worker", "stretchWay", "(III)Z"⟩, 20) := ⟨⟨by decide +kernel, by decide +kernel⟩, List.mem_of_getElem? (i := 687) (by decide +kernel), List.mem_of_getElem? (i := 1283) (by decide +kernel), List.mem_of_getElem? (i := 1284) (by decide +kernel)⟩
theorem lw_p83 : lw_okq (⟨"OptimaWorks$Reader", "readDifferent", "()V"⟩, 11) := ⟨⟨by decide +kernel, by decide +kernel⟩, List.mem_of_getElem? (i := 681) (by decide +kernel), List.mem_of_getElem? (i := 1302) (by decide +kernel), List.mem_of_getElem? (i := 1303) (by decide +kernel)⟩
theorem lw_p84 : lw_okq (⟨"OptimaWorks$Reader", "takeWholeVar", "()I"⟩, 11) := ⟨⟨by decide +kernel, by decide +kernel⟩, List.mem_of_getElem? (i := 681) (by decide +kernel), List.mem_of_getElem? (i := 1306) (by decide +kernel), List.mem_of_getElem? (i := 1307) (by decide +kernel)⟩
theorem lw_p85 : lw_okq (⟨"OptimaWorks$Reader", "readGoal", "()V"⟩, 11) := ⟨⟨by decide +kernel, by decide +kernel⟩, List.mem_of_getElem? (i := 681) (by decide +kernel), List.mem_of_getElem? (i := 1310) (by decide +kernel), List.mem_of_getElem? (i := 1311) (by decide +kernel)⟩
theorem lw_p86 : lw_okq (⟨"OptimaWorks", "needModel", "()V"⟩, 11) := ⟨⟨by decide +kernel, by decide +kernel⟩, List.mem_of_getElem? (i := 31) (by decide +kernel), List.mem_of_getElem? (i := 1374) (by decide +kernel), List.mem_of_getElem? (i := 1375) (by decide +kernel)⟩
theorem lw_p87 : lw_okq (⟨"OptimaWorks", "putVariable", "(I)V"⟩, 11) := ⟨⟨by decide +kernel, by decide +kernel⟩, List.mem_of_getElem? (i := 31) (by decide +kernel), List.mem_of_getElem? (i := 1393) (by decide +kernel), List.mem_of_getElem? (i := 1394) (by decide +kernel)⟩
theorem lw_p88 : lw_okq (⟨"OptimaWorks", "putText", "(Ljava/lang/String;)V"⟩, 11) := ⟨⟨by decide +kernel, by decide +kernel⟩, List.mem_of_getElem? (i := 31) (by decide +kernel), List.mem_of_getElem? (i := 1398) (by decide +kernel), List.mem_of_getElem? (i := 1399) (by decide +kernel)⟩
theorem lw_p89 : lw_okq (⟨"OptimaWorks", "put", "(I)V"⟩, 11) := ⟨⟨by decide +kernel, by decide +kernel⟩, List.mem_of_getElem? (i := 31) (by decide +kernel), List.mem_of_getElem? (i := 1404) (by decide +kernel), List.mem_of_getElem? (i := 1405) (by decide +kernel)⟩
theorem lw_p90 : lw_okq (⟨"OptimaWorks", "putNumber", "(I)V"⟩, 11) := ⟨⟨by decide +kernel, by decide +kernel⟩, List.mem_of_getElem? (i := 31) (by decide +kernel), List.mem_of_getElem? (i := 1409) (by decide +kernel), List.mem_of_getElem? (i := 1410) (by decide +kernel)⟩
theorem lw_p91 : lw_okq (⟨"OptimaWorks", "turnRound", "(I)V"⟩, 11) := ⟨⟨by decide +kernel, by decide +kernel⟩, List.mem_of_getElem? (i := 31) (by decide +kernel), List.mem_of_getElem? (i := 1413) (by decide +kernel), List.mem_of_getElem? (i := 1414) (by decide +kernel)⟩
theorem lw_p92 : lw_okq (⟨"OptimaWorks", "putRow", "(I)V"⟩, 11) := ⟨⟨by decide +kernel, by decide +kernel⟩, List.mem_of_getElem? (i := 31) (by decide +kernel), List.mem_of_getElem? (i := 1421) (by decide +kernel), List.mem_of_getElem? (i := 1422) (by decide +kernel)⟩
theorem lw_p93 : lw_okq (⟨"OptimaWorks", "putWay", "(II)V"⟩, 11) := ⟨⟨by decide +kernel, by decide +kernel⟩, List.mem_of_getElem? (i := 31) (by decide +kernel), List.mem_of_getElem? (i := 1428) (by decide +kernel), List.mem_of_getElem? (i := 1429) (by decide +kernel)⟩
theorem lw_p94 : lw_okq (⟨"OptimaWorks", "putTimes", "(IIIZ)V"⟩, 11) := ⟨⟨by decide +kernel, by decide +kernel⟩, List.mem_of_getElem? (i := 31) (by decide +kernel), List.mem_of_getElem? (i := 1432) (by decide +kernel), List.mem_of_getElem? (i := 1433) (by decide +kernel)⟩
theorem lw_p95 : lw_okq (⟨"OptimaWorks", "putRatio", "(II)V"⟩, 11) := ⟨⟨by decide +kernel, by decide +kernel⟩, List.mem_of_getElem? (i := 31) (by decide +kernel), List.mem_of_getElem? (i := 1438) (by decide +kernel), List.mem_of_getElem? (i := 1439) (by decide +kernel)⟩
def lw_privs_6 : List (MethodName × Nat) := [(⟨"OptimaWorks$Worker", "leaveDifference", "(I)V"⟩, 20), (⟨"OptimaWorks$Worker", "scaled", "(IIII)I"⟩, 20), (⟨"OptimaWorks$Worker", "stretchWay", "(III)Z"⟩, 20), (⟨"OptimaWorks$Reader", "readDifferent", "()V"⟩, 11), (⟨"OptimaWorks$Reader", "takeWholeVar", "()I"⟩, 11), (⟨"OptimaWorks$Reader", "readGoal", "()V"⟩, 11), (⟨"OptimaWorks", "needModel", "()V"⟩, 11), (⟨"OptimaWorks", "putVariable", "(I)V"⟩, 11), (⟨"OptimaWorks", "putText", "(Ljava/lang/String;)V"⟩, 11), (⟨"OptimaWorks", "put", "(I)V"⟩, 11), (⟨"OptimaWorks", "putNumber", "(I)V"⟩, 11), (⟨"OptimaWorks", "turnRound", "(I)V"⟩, 11), (⟨"OptimaWorks", "putRow", "(I)V"⟩, 11), (⟨"OptimaWorks", "putWay", "(II)V"⟩, 11), (⟨"OptimaWorks", "putTimes", "(IIIZ)V"⟩, 11), (⟨"OptimaWorks", "putRatio", "(II)V"⟩, 11)]
theorem lw_r6 : ∀ q ∈ lw_privs_6, lw_okq q := List.forall_mem_cons.mpr ⟨lw_p80, List.forall_mem_cons.mpr ⟨lw_p81, List.forall_mem_cons.mpr ⟨lw_p82, List.forall_mem_cons.mpr ⟨lw_p83, List.forall_mem_cons.mpr ⟨lw_p84, List.forall_mem_cons.mpr ⟨lw_p85, List.forall_mem_cons.mpr ⟨lw_p86, List.forall_mem_cons.mpr ⟨lw_p87, List.forall_mem_cons.mpr ⟨lw_p88, List.forall_mem_cons.mpr ⟨lw_p89, List.forall_mem_cons.mpr ⟨lw_p90, List.forall_mem_cons.mpr ⟨lw_p91, List.forall_mem_cons.mpr ⟨lw_p92, List.forall_mem_cons.mpr ⟨lw_p93, List.forall_mem_cons.mpr ⟨lw_p94, List.forall_mem_cons.mpr ⟨lw_p95, fun _ h => absurd h List.not_mem_nil⟩⟩⟩⟩⟩⟩⟩⟩⟩⟩⟩⟩⟩⟩⟩⟩
theorem lw_p96 : lw_okq (⟨"OptimaWorks", "putDifferent", "(I)V"⟩, 11) := ⟨⟨by decide +kernel, by decide +kernel⟩, List.mem_of_getElem? (i := 31) (by decide +kernel), List.mem_of_getElem? (i := 1448) (by decide +kernel), List.mem_of_getElem? (i := 1449) (by decide +kernel)⟩
theorem lw_p97 : lw_okq (⟨"OptimaWorks", "putGoal", "(I)V"⟩, 11) := ⟨⟨by decide +kernel, by decide +kernel⟩, List.mem_of_getElem? (i := 31) (by decide +kernel), List.mem_of_getElem? (i := 1454) (by decide +kernel), List.mem_of_getElem? (i := 1455) (by decide +kernel)⟩
theorem lw_p98 : lw_okq (⟨"OptimaWorks", "theSolver", "()LOptimaWorks$Solver;"⟩, 11) := ⟨⟨by decide +kernel, by decide +kernel⟩, List.mem_of_getElem? (i := 31) (by decide +kernel), List.mem_of_getElem? (i := 1469) (by decide +kernel), List.mem_of_getElem? (i := 1470) (by decide +kernel)⟩
theorem lw_p99 : lw_okq (⟨"OptimaWorks$Solver", "choose", "(I)Z"⟩, 19) := ⟨⟨by decide +kernel, by decide +kernel⟩, List.mem_of_getElem? (i := 1473) (by decide +kernel), List.mem_of_getElem? (i := 1629) (by decide +kernel), List.mem_of_getElem? (i := 1630) (by decide +kernel)⟩
theorem lw_p100 : lw_okq (⟨"OptimaWorks$Solver", "allDiffer", "()Z"⟩, 19) := ⟨⟨by decide +kernel, by decide +kernel⟩, List.mem_of_getElem? (i := 1473) (by decide +kernel), List.mem_of_getElem? (i := 1638) (by decide +kernel), List.mem_of_getElem? (i := 1639) (by decide +kernel)⟩
theorem lw_p101 : lw_okq (⟨"OptimaWorks$Solver", "differ", "(I)Z"⟩, 19) := ⟨⟨by decide +kernel, by decide +kernel⟩, List.mem_of_getElem? (i := 1473) (by decide +kernel), List.mem_of_getElem? (i := 1642) (by decide +kernel), List.mem_of_getElem? (i := 1643) (by decide +kernel)⟩
theorem lw_p102 : lw_okq (⟨"OptimaWorks$Solver", "layWay", "(III)Z"⟩, 19) := ⟨⟨by decide +kernel, by decide +kernel⟩, List.mem_of_getElem? (i := 1473) (by decide +kernel), List.mem_of_getElem? (i := 1660) (by decide +kernel), List.mem_of_getElem? (i := 1661) (by decide +kernel)⟩
theorem lw_p103 : lw_okq (⟨"OptimaWorks$Solver", "layGoal", "(II)V"⟩, 19) := ⟨⟨by decide +kernel, by decide +kernel⟩, List.mem_of_getElem? (i := 1473) (by decide +kernel), List.mem_of_getElem? (i := 1674) (by decide +kernel), List.mem_of_getElem? (i := 1675) (by decide +kernel)⟩
theorem lw_p104 : lw_okq (⟨"OptimaWorks$Whole", "trim", "()V"⟩, 3) := ⟨⟨by decide +kernel, by decide +kernel⟩, List.mem_of_getElem? (i := 1486) (by decide +kernel), List.mem_of_getElem? (i := 1691) (by decide +kernel), List.mem_of_getElem? (i := 1692) (by decide +kernel)⟩
theorem lw_p105 : lw_okq (⟨"OptimaWorks$Whole", "addSize", "(LOptimaWorks$Whole;)V"⟩, 3) := ⟨⟨by decide +kernel, by decide +kernel⟩, List.mem_of_getElem? (i := 1486) (by decide +kernel), List.mem_of_getElem? (i := 1699) (by decide +kernel), List.mem_of_getElem? (i := 1700) (by decide +kernel)⟩
theorem lw_p106 : lw_okq (⟨"OptimaWorks$Whole", "takeSize", "(LOptimaWorks$Whole;LOptimaWorks$Whole;)V"⟩, 3) := ⟨⟨by decide +kernel, by decide +kernel⟩, List.mem_of_getElem? (i := 1486) (by decide +kernel), List.mem_of_getElem? (i := 1708) (by decide +kernel), List.mem_of_getElem? (i := 1709) (by decide +kernel)⟩
theorem lw_p107 : lw_okq (⟨"OptimaWorks$Tableau", "columnWith", "(I)I"⟩, 13) := ⟨⟨by decide +kernel, by decide +kernel⟩, List.mem_of_getElem? (i := 1479) (by decide +kernel), List.mem_of_getElem? (i := 1720) (by decide +kernel), List.mem_of_getElem? (i := 1721) (by decide +kernel)⟩
theorem lw_p108 : lw_okq (⟨"OptimaWorks$Tableau", "exchange", "(II)V"⟩, 13) := ⟨⟨by decide +kernel, by decide +kernel⟩, List.mem_of_getElem? (i := 1479) (by decide +kernel), List.mem_of_getElem? (i := 1725) (by decide +kernel), List.mem_of_getElem? (i := 1726) (by decide +kernel)⟩
theorem lw_p109 : lw_okq (⟨"OptimaWorks$Tableau", "changeCell", "(LOptimaWorks$Whole;LOptimaWorks$Whole;LOptimaWorks$Whole;Z)V"⟩, 13) := ⟨⟨by decide +kernel, by decide +kernel⟩, List.mem_of_getElem? (i := 1479) (by decide +kernel), List.mem_of_getElem? (i := 1735) (by decide +kernel), List.mem_of_getElem? (i := 1736) (by decide +kernel)⟩
theorem lw_p110 : lw_okq (⟨"OptimaWorks$Whole", "setShifted", "(LOptimaWorks$Whole;I)V"⟩, 3) := ⟨⟨by decide +kernel, by decide +kernel⟩, List.mem_of_getElem? (i := 1486) (by decide +kernel), List.mem_of_getElem? (i := 1764) (by decide +kernel), List.mem_of_getElem? (i := 1765) (by decide +kernel)⟩
theorem lw_p111 : lw_okq (⟨"OptimaWorks$Whole", "takeTimes", "(LOptimaWorks$Whole;II)J"⟩, 3) := ⟨⟨by decide +kernel, by decide +kernel⟩, List.mem_of_getElem? (i := 1486) (by decide +kernel), List.mem_of_getElem? (i := 1768) (by decide +kernel), List.mem_of_getElem? (i := 1769) (by decide +kernel)⟩
def lw_privs_7 : List (MethodName × Nat) := [(⟨"OptimaWorks", "putDifferent", "(I)V"⟩, 11), (⟨"OptimaWorks", "putGoal", "(I)V"⟩, 11), (⟨"OptimaWorks", "theSolver", "()LOptimaWorks$Solver;"⟩, 11), (⟨"OptimaWorks$Solver", "choose", "(I)Z"⟩, 19), (⟨"OptimaWorks$Solver", "allDiffer", "()Z"⟩, 19), (⟨"OptimaWorks$Solver", "differ", "(I)Z"⟩, 19), (⟨"OptimaWorks$Solver", "layWay", "(III)Z"⟩, 19), (⟨"OptimaWorks$Solver", "layGoal", "(II)V"⟩, 19), (⟨"OptimaWorks$Whole", "trim", "()V"⟩, 3), (⟨"OptimaWorks$Whole", "addSize", "(LOptimaWorks$Whole;)V"⟩, 3), (⟨"OptimaWorks$Whole", "takeSize", "(LOptimaWorks$Whole;LOptimaWorks$Whole;)V"⟩, 3), (⟨"OptimaWorks$Tableau", "columnWith", "(I)I"⟩, 13), (⟨"OptimaWorks$Tableau", "exchange", "(II)V"⟩, 13), (⟨"OptimaWorks$Tableau", "changeCell", "(LOptimaWorks$Whole;LOptimaWorks$Whole;LOptimaWorks$Whole;Z)V"⟩, 13), (⟨"OptimaWorks$Whole", "setShifted", "(LOptimaWorks$Whole;I)V"⟩, 3), (⟨"OptimaWorks$Whole", "takeTimes", "(LOptimaWorks$Whole;II)J"⟩, 3)]
theorem lw_r7 : ∀ q ∈ lw_privs_7, lw_okq q := List.forall_mem_cons.mpr ⟨lw_p96, List.forall_mem_cons.mpr ⟨lw_p97, List.forall_mem_cons.mpr ⟨lw_p98, List.forall_mem_cons.mpr ⟨lw_p99, List.forall_mem_cons.mpr ⟨lw_p100, List.forall_mem_cons.mpr ⟨lw_p101, List.forall_mem_cons.mpr ⟨lw_p102, List.forall_mem_cons.mpr ⟨lw_p103, List.forall_mem_cons.mpr ⟨lw_p104, List.forall_mem_cons.mpr ⟨lw_p105, List.forall_mem_cons.mpr ⟨lw_p106, List.forall_mem_cons.mpr ⟨lw_p107, List.forall_mem_cons.mpr ⟨lw_p108, List.forall_mem_cons.mpr ⟨lw_p109, List.forall_mem_cons.mpr ⟨lw_p110, List.forall_mem_cons.mpr ⟨lw_p111, fun _ h => absurd h List.not_mem_nil⟩⟩⟩⟩⟩⟩⟩⟩⟩⟩⟩⟩⟩⟩⟩⟩
theorem lw_p112 : lw_okq (⟨"OptimaWorks$Whole", "shiftBack", "(I)V"⟩, 3) := ⟨⟨by decide +kernel, by decide +kernel⟩, List.mem_of_getElem? (i := 1486) (by decide +kernel), List.mem_of_getElem? (i := 1772) (by decide +kernel), List.mem_of_getElem? (i := 1773) (by decide +kernel)⟩
theorem lw_p113 : lw_okq (⟨"OptimaWorks$Tableau", "rowBelow", "(Z)I"⟩, 13) := ⟨⟨by decide +kernel, by decide +kernel⟩, List.mem_of_getElem? (i := 1479) (by decide +kernel), List.mem_of_getElem? (i := 1781) (by decide +kernel), List.mem_of_getElem? (i := 1782) (by decide +kernel)⟩
theorem lw_p114 : lw_okq (⟨"OptimaWorks$Tableau", "columnOfSign", "(IIZ)I"⟩, 13) := ⟨⟨by decide +kernel, by decide +kernel⟩, List.mem_of_getElem? (i := 1479) (by decide +kernel), List.mem_of_getElem? (i := 1789) (by decide +kernel), List.mem_of_getElem? (i := 1790) (by decide +kernel)⟩
theorem lw_p115 : lw_okq (⟨"OptimaWorks$Solver", "tryAnswer", "()V"⟩, 19) := ⟨⟨by decide +kernel, by decide +kernel⟩, List.mem_of_getElem? (i := 1473) (by decide +kernel), List.mem_of_getElem? (i := 1793) (by decide +kernel), List.mem_of_getElem? (i := 1794) (by decide +kernel)⟩
theorem lw_p116 : lw_okq (⟨"OptimaWorks$Solver", "goalRow", "(I)I"⟩, 19) := ⟨⟨by decide +kernel, by decide +kernel⟩, List.mem_of_getElem? (i := 1473) (by decide +kernel), List.mem_of_getElem? (i := 1797) (by decide +kernel), List.mem_of_getElem? (i := 1798) (by decide +kernel)⟩
theorem lw_p117 : lw_okq (⟨"OptimaWorks$Tableau", "tightest", "(I)I"⟩, 13) := ⟨⟨by decide +kernel, by decide +kernel⟩, List.mem_of_getElem? (i := 1479) (by decide +kernel), List.mem_of_getElem? (i := 1809) (by decide +kernel), List.mem_of_getElem? (i := 1810) (by decide +kernel)⟩
theorem lw_p118 : lw_okq (⟨"OptimaWorks$Tableau", "compareRoom", "(III)I"⟩, 13) := ⟨⟨by decide +kernel, by decide +kernel⟩, List.mem_of_getElem? (i := 1479) (by decide +kernel), List.mem_of_getElem? (i := 1813) (by decide +kernel), List.mem_of_getElem? (i := 1814) (by decide +kernel)⟩
theorem lw_p119 : lw_okq (⟨"OptimaWorks$Tableau", "shutWith", "(I)V"⟩, 13) := ⟨⟨by decide +kernel, by decide +kernel⟩, List.mem_of_getElem? (i := 1479) (by decide +kernel), List.mem_of_getElem? (i := 1817) (by decide +kernel), List.mem_of_getElem? (i := 1818) (by decide +kernel)⟩
theorem lw_p120 : lw_okq (⟨"OptimaWorks$Solver", "compare", "(LOptimaWorks$Whole;LOptimaWorks$Whole;)I"⟩, 19) := ⟨⟨by decide +kernel, by decide +kernel⟩, List.mem_of_getElem? (i := 1473) (by decide +kernel), List.mem_of_getElem? (i := 1821) (by decide +kernel), List.mem_of_getElem? (i := 1822) (by decide +kernel)⟩
theorem lw_p121 : lw_okq (⟨"OptimaWorks$Tableau", "shutOutside", "(I)V"⟩, 13) := ⟨⟨by decide +kernel, by decide +kernel⟩, List.mem_of_getElem? (i := 1479) (by decide +kernel), List.mem_of_getElem? (i := 1839) (by decide +kernel), List.mem_of_getElem? (i := 1840) (by decide +kernel)⟩
theorem lw_p122 : lw_okq (⟨"OptimaWorks$Tableau", "columnOf", "(I)I"⟩, 13) := ⟨⟨by decide +kernel, by decide +kernel⟩, List.mem_of_getElem? (i := 1479) (by decide +kernel), List.mem_of_getElem? (i := 1843) (by decide +kernel), List.mem_of_getElem? (i := 1844) (by decide +kernel)⟩
theorem lw_p123 : lw_okq (⟨"OptimaWorks$Solver", "keepAnswer", "()V"⟩, 19) := ⟨⟨by decide +kernel, by decide +kernel⟩, List.mem_of_getElem? (i := 1473) (by decide +kernel), List.mem_of_getElem? (i := 1852) (by decide +kernel), List.mem_of_getElem? (i := 1853) (by decide +kernel)⟩
theorem lw_p124 : lw_okq (⟨"OptimaWorks", "needAnswer", "(II)V"⟩, 11) := ⟨⟨by decide +kernel, by decide +kernel⟩, List.mem_of_getElem? (i := 31) (by decide +kernel), List.mem_of_getElem? (i := 1864) (by decide +kernel), List.mem_of_getElem? (i := 1865) (by decide +kernel)⟩
theorem lw_p125 : lw_okq (⟨"OptimaWorks", "putTold", "()I"⟩, 11) := ⟨⟨by decide +kernel, by decide +kernel⟩, List.mem_of_getElem? (i := 31) (by decide +kernel), List.mem_of_getElem? (i := 1872) (by decide +kernel), List.mem_of_getElem? (i := 1873) (by decide +kernel)⟩
theorem lw_p126 : lw_okq (⟨"OptimaWorks", "putWhole", "(LOptimaWorks$Whole;)V"⟩, 11) := ⟨⟨by decide +kernel, by decide +kernel⟩, List.mem_of_getElem? (i := 31) (by decide +kernel), List.mem_of_getElem? (i := 1885) (by decide +kernel), List.mem_of_getElem? (i := 1886) (by decide +kernel)⟩
theorem lw_p127 : lw_okq (⟨"OptimaWorks$Prover", "findBest", "()V"⟩, 17) := ⟨⟨by decide +kernel, by decide +kernel⟩, List.mem_of_getElem? (i := 1947) (by decide +kernel), List.mem_of_getElem? (i := 2018) (by decide +kernel), List.mem_of_getElem? (i := 2019) (by decide +kernel)⟩
def lw_privs_8 : List (MethodName × Nat) := [(⟨"OptimaWorks$Whole", "shiftBack", "(I)V"⟩, 3), (⟨"OptimaWorks$Tableau", "rowBelow", "(Z)I"⟩, 13), (⟨"OptimaWorks$Tableau", "columnOfSign", "(IIZ)I"⟩, 13), (⟨"OptimaWorks$Solver", "tryAnswer", "()V"⟩, 19), (⟨"OptimaWorks$Solver", "goalRow", "(I)I"⟩, 19), (⟨"OptimaWorks$Tableau", "tightest", "(I)I"⟩, 13), (⟨"OptimaWorks$Tableau", "compareRoom", "(III)I"⟩, 13), (⟨"OptimaWorks$Tableau", "shutWith", "(I)V"⟩, 13), (⟨"OptimaWorks$Solver", "compare", "(LOptimaWorks$Whole;LOptimaWorks$Whole;)I"⟩, 19), (⟨"OptimaWorks$Tableau", "shutOutside", "(I)V"⟩, 13), (⟨"OptimaWorks$Tableau", "columnOf", "(I)I"⟩, 13), (⟨"OptimaWorks$Solver", "keepAnswer", "()V"⟩, 19), (⟨"OptimaWorks", "needAnswer", "(II)V"⟩, 11), (⟨"OptimaWorks", "putTold", "()I"⟩, 11), (⟨"OptimaWorks", "putWhole", "(LOptimaWorks$Whole;)V"⟩, 11), (⟨"OptimaWorks$Prover", "findBest", "()V"⟩, 17)]
theorem lw_r8 : ∀ q ∈ lw_privs_8, lw_okq q := List.forall_mem_cons.mpr ⟨lw_p112, List.forall_mem_cons.mpr ⟨lw_p113, List.forall_mem_cons.mpr ⟨lw_p114, List.forall_mem_cons.mpr ⟨lw_p115, List.forall_mem_cons.mpr ⟨lw_p116, List.forall_mem_cons.mpr ⟨lw_p117, List.forall_mem_cons.mpr ⟨lw_p118, List.forall_mem_cons.mpr ⟨lw_p119, List.forall_mem_cons.mpr ⟨lw_p120, List.forall_mem_cons.mpr ⟨lw_p121, List.forall_mem_cons.mpr ⟨lw_p122, List.forall_mem_cons.mpr ⟨lw_p123, List.forall_mem_cons.mpr ⟨lw_p124, List.forall_mem_cons.mpr ⟨lw_p125, List.forall_mem_cons.mpr ⟨lw_p126, List.forall_mem_cons.mpr ⟨lw_p127, fun _ h => absurd h List.not_mem_nil⟩⟩⟩⟩⟩⟩⟩⟩⟩⟩⟩⟩⟩⟩⟩⟩
theorem lw_p128 : lw_okq (⟨"OptimaWorks$Prover", "chooseColumns", "(Z)V"⟩, 17) := ⟨⟨by decide +kernel, by decide +kernel⟩, List.mem_of_getElem? (i := 1947) (by decide +kernel), List.mem_of_getElem? (i := 2034) (by decide +kernel), List.mem_of_getElem? (i := 2035) (by decide +kernel)⟩
theorem lw_p129 : lw_okq (⟨"OptimaWorks$Prover", "isTight", "(IIZ)Z"⟩, 17) := ⟨⟨by decide +kernel, by decide +kernel⟩, List.mem_of_getElem? (i := 1947) (by decide +kernel), List.mem_of_getElem? (i := 2046) (by decide +kernel), List.mem_of_getElem? (i := 2047) (by decide +kernel)⟩
theorem lw_p130 : lw_okq (⟨"OptimaWorks$Model", "isTurned", "(I)Z"⟩, 17) := ⟨⟨by decide +kernel, by decide +kernel⟩, List.mem_of_getElem? (i := 83) (by decide +kernel), List.mem_of_getElem? (i := 2055) (by decide +kernel), List.mem_of_getElem? (i := 2056) (by decide +kernel)⟩
theorem lw_p131 : lw_okq (⟨"OptimaWorks$Prover", "layMultipliers", "(Z)V"⟩, 17) := ⟨⟨by decide +kernel, by decide +kernel⟩, List.mem_of_getElem? (i := 1947) (by decide +kernel), List.mem_of_getElem? (i := 2066) (by decide +kernel), List.mem_of_getElem? (i := 2067) (by decide +kernel)⟩
theorem lw_p132 : lw_okq (⟨"OptimaWorks$Prover", "findShortfall", "()V"⟩, 17) := ⟨⟨by decide +kernel, by decide +kernel⟩, List.mem_of_getElem? (i := 1947) (by decide +kernel), List.mem_of_getElem? (i := 2075) (by decide +kernel), List.mem_of_getElem? (i := 2076) (by decide +kernel)⟩
theorem lw_p133 : lw_okq (⟨"OptimaWorks$Prover", "layNeed", "(III)V"⟩, 17) := ⟨⟨by decide +kernel, by decide +kernel⟩, List.mem_of_getElem? (i := 1947) (by decide +kernel), List.mem_of_getElem? (i := 2080) (by decide +kernel), List.mem_of_getElem? (i := 2081) (by decide +kernel)⟩
theorem lw_p134 : lw_okq (⟨"OptimaWorks$Prover", "takeColumn", "(LOptimaWorks$Whole;I)V"⟩, 17) := ⟨⟨by decide +kernel, by decide +kernel⟩, List.mem_of_getElem? (i := 1947) (by decide +kernel), List.mem_of_getElem? (i := 2085) (by decide +kernel), List.mem_of_getElem? (i := 2086) (by decide +kernel)⟩
theorem lw_p135 : lw_okq (⟨"OptimaWorks$Prover", "canSink", "(I)Z"⟩, 17) := ⟨⟨by decide +kernel, by decide +kernel⟩, List.mem_of_getElem? (i := 1947) (by decide +kernel), List.mem_of_getElem? (i := 2090) (by decide +kernel), List.mem_of_getElem? (i := 2091) (by decide +kernel)⟩
theorem lw_p136 : lw_okq (⟨"OptimaWorks$Prover", "dropNeed", "(I)V"⟩, 17) := ⟨⟨by decide +kernel, by decide +kernel⟩, List.mem_of_getElem? (i := 1947) (by decide +kernel), List.mem_of_getElem? (i := 2094) (by decide +kernel), List.mem_of_getElem? (i := 2095) (by decide +kernel)⟩
theorem lw_p137 : lw_okq (⟨"OptimaWorks$Prover", "takeMultipliers", "()V"⟩, 17) := ⟨⟨by decide +kernel, by decide +kernel⟩, List.mem_of_getElem? (i := 1947) (by decide +kernel), List.mem_of_getElem? (i := 2106) (by decide +kernel), List.mem_of_getElem? (i := 2107) (by decide +kernel)⟩
theorem lw_p138 : lw_okq (⟨"OptimaWorks$ValueDesk", "isSet", "(I)Z"⟩, 20) := ⟨⟨by decide +kernel, by decide +kernel⟩, List.mem_of_getElem? (i := 295) (by decide +kernel), List.mem_of_getElem? (i := 2148) (by decide +kernel), List.mem_of_getElem? (i := 2149) (by decide +kernel)⟩
theorem lw_p139 : lw_okq (⟨"OptimaWorks$NetDesk", "reach", "(II)Z"⟩, 14) := ⟨⟨by decide +kernel, by decide +kernel⟩, List.mem_of_getElem? (i := 593) (by decide +kernel), List.mem_of_getElem? (i := 2200) (by decide +kernel), List.mem_of_getElem? (i := 2201) (by decide +kernel)⟩
theorem lw_p140 : lw_okq (⟨"OptimaWorks$NetDesk", "measure", "(I)V"⟩, 14) := ⟨⟨by decide +kernel, by decide +kernel⟩, List.mem_of_getElem? (i := 593) (by decide +kernel), List.mem_of_getElem? (i := 2224) (by decide +kernel), List.mem_of_getElem? (i := 2225) (by decide +kernel)⟩
theorem lw_p141 : lw_okq (⟨"OptimaWorks$NetDesk", "push", "(III)I"⟩, 14) := ⟨⟨by decide +kernel, by decide +kernel⟩, List.mem_of_getElem? (i := 593) (by decide +kernel), List.mem_of_getElem? (i := 2228) (by decide +kernel), List.mem_of_getElem? (i := 2229) (by decide +kernel)⟩
theorem lw_p142 : lw_okq (⟨"OptimaWorks$NetDesk", "measureBack", "(I)V"⟩, 14) := ⟨⟨by decide +kernel, by decide +kernel⟩, List.mem_of_getElem? (i := 593) (by decide +kernel), List.mem_of_getElem? (i := 2243) (by decide +kernel), List.mem_of_getElem? (i := 2244) (by decide +kernel)⟩
theorem lw_p143 : lw_okq (⟨"OptimaWorks$NetDesk", "nextNode", "(I)I"⟩, 14) := ⟨⟨by decide +kernel, by decide +kernel⟩, List.mem_of_getElem? (i := 593) (by decide +kernel), List.mem_of_getElem? (i := 2247) (by decide +kernel), List.mem_of_getElem? (i := 2248) (by decide +kernel)⟩
def lw_privs_9 : List (MethodName × Nat) := [(⟨"OptimaWorks$Prover", "chooseColumns", "(Z)V"⟩, 17), (⟨"OptimaWorks$Prover", "isTight", "(IIZ)Z"⟩, 17), (⟨"OptimaWorks$Model", "isTurned", "(I)Z"⟩, 17), (⟨"OptimaWorks$Prover", "layMultipliers", "(Z)V"⟩, 17), (⟨"OptimaWorks$Prover", "findShortfall", "()V"⟩, 17), (⟨"OptimaWorks$Prover", "layNeed", "(III)V"⟩, 17), (⟨"OptimaWorks$Prover", "takeColumn", "(LOptimaWorks$Whole;I)V"⟩, 17), (⟨"OptimaWorks$Prover", "canSink", "(I)Z"⟩, 17), (⟨"OptimaWorks$Prover", "dropNeed", "(I)V"⟩, 17), (⟨"OptimaWorks$Prover", "takeMultipliers", "()V"⟩, 17), (⟨"OptimaWorks$ValueDesk", "isSet", "(I)Z"⟩, 20), (⟨"OptimaWorks$NetDesk", "reach", "(II)Z"⟩, 14), (⟨"OptimaWorks$NetDesk", "measure", "(I)V"⟩, 14), (⟨"OptimaWorks$NetDesk", "push", "(III)I"⟩, 14), (⟨"OptimaWorks$NetDesk", "measureBack", "(I)V"⟩, 14), (⟨"OptimaWorks$NetDesk", "nextNode", "(I)I"⟩, 14)]
theorem lw_r9 : ∀ q ∈ lw_privs_9, lw_okq q := List.forall_mem_cons.mpr ⟨lw_p128, List.forall_mem_cons.mpr ⟨lw_p129, List.forall_mem_cons.mpr ⟨lw_p130, List.forall_mem_cons.mpr ⟨lw_p131, List.forall_mem_cons.mpr ⟨lw_p132, List.forall_mem_cons.mpr ⟨lw_p133, List.forall_mem_cons.mpr ⟨lw_p134, List.forall_mem_cons.mpr ⟨lw_p135, List.forall_mem_cons.mpr ⟨lw_p136, List.forall_mem_cons.mpr ⟨lw_p137, List.forall_mem_cons.mpr ⟨lw_p138, List.forall_mem_cons.mpr ⟨lw_p139, List.forall_mem_cons.mpr ⟨lw_p140, List.forall_mem_cons.mpr ⟨lw_p141, List.forall_mem_cons.mpr ⟨lw_p142, List.forall_mem_cons.mpr ⟨lw_p143, fun _ h => absurd h List.not_mem_nil⟩⟩⟩⟩⟩⟩⟩⟩⟩⟩⟩⟩⟩⟩⟩⟩
theorem lw_p144 : lw_okq (⟨"OptimaWorks$NetDesk", "takeStops", "(I)V"⟩, 14) := ⟨⟨by decide +kernel, by decide +kernel⟩, List.mem_of_getElem? (i := 593) (by decide +kernel), List.mem_of_getElem? (i := 2263) (by decide +kernel), List.mem_of_getElem? (i := 2264) (by decide +kernel)⟩
theorem lw_p145 : lw_okq (⟨"OptimaWorks$NetDesk", "takePrices", "()V"⟩, 14) := ⟨⟨by decide +kernel, by decide +kernel⟩, List.mem_of_getElem? (i := 593) (by decide +kernel), List.mem_of_getElem? (i := 2267) (by decide +kernel), List.mem_of_getElem? (i := 2268) (by decide +kernel)⟩
theorem lw_p146 : lw_okq (⟨"OptimaWorks$NetDesk", "restFrom", "(II)I"⟩, 14) := ⟨⟨by decide +kernel, by decide +kernel⟩, List.mem_of_getElem? (i := 593) (by decide +kernel), List.mem_of_getElem? (i := 2271) (by decide +kernel), List.mem_of_getElem? (i := 2272) (by decide +kernel)⟩
theorem lw_p147 : lw_okq (⟨"OptimaWorks$NetDesk", "costOver", "(III)I"⟩, 14) := ⟨⟨by decide +kernel, by decide +kernel⟩, List.mem_of_getElem? (i := 593) (by decide +kernel), List.mem_of_getElem? (i := 2275) (by decide +kernel), List.mem_of_getElem? (i := 2276) (by decide +kernel)⟩
theorem lw_p148 : lw_okq (⟨"OptimaWorks$NetDesk", "nextStop", "(II)I"⟩, 14) := ⟨⟨by decide +kernel, by decide +kernel⟩, List.mem_of_getElem? (i := 593) (by decide +kernel), List.mem_of_getElem? (i := 2279) (by decide +kernel), List.mem_of_getElem? (i := 2280) (by decide +kernel)⟩
theorem lw_p149 : lw_okq (⟨"OptimaWorksModel", "next", "()V"⟩, 163) := ⟨⟨by decide +kernel, by decide +kernel⟩, List.mem_of_getElem? (i := 2283) (by decide +kernel), List.mem_of_getElem? (i := 2788) (by decide +kernel), List.mem_of_getElem? (i := 2789) (by decide +kernel)⟩
theorem lw_p150 : lw_okq (⟨"OptimaWorksModel", "byteAt", "(I)I"⟩, 163) := ⟨⟨by decide +kernel, by decide +kernel⟩, List.mem_of_getElem? (i := 2283) (by decide +kernel), List.mem_of_getElem? (i := 2792) (by decide +kernel), List.mem_of_getElem? (i := 2793) (by decide +kernel)⟩
theorem lw_p151 : lw_okq (⟨"OptimaWorksModel", "takeName", "()V"⟩, 163) := ⟨⟨by decide +kernel, by decide +kernel⟩, List.mem_of_getElem? (i := 2283) (by decide +kernel), List.mem_of_getElem? (i := 2799) (by decide +kernel), List.mem_of_getElem? (i := 2800) (by decide +kernel)⟩
theorem lw_p152 : lw_okq (⟨"OptimaWorksModel", "key", "(II)I"⟩, 163) := ⟨⟨by decide +kernel, by decide +kernel⟩, List.mem_of_getElem? (i := 2283) (by decide +kernel), List.mem_of_getElem? (i := 2806) (by decide +kernel), List.mem_of_getElem? (i := 2807) (by decide +kernel)⟩
theorem lw_p153 : lw_okq (⟨"OptimaWorksModel", "takeNumber", "()V"⟩, 163) := ⟨⟨by decide +kernel, by decide +kernel⟩, List.mem_of_getElem? (i := 2283) (by decide +kernel), List.mem_of_getElem? (i := 2815) (by decide +kernel), List.mem_of_getElem? (i := 2816) (by decide +kernel)⟩
theorem lw_p154 : lw_okq (⟨"OptimaWorksModel", "takeSign", "(I)V"⟩, 163) := ⟨⟨by decide +kernel, by decide +kernel⟩, List.mem_of_getElem? (i := 2283) (by decide +kernel), List.mem_of_getElem? (i := 2819) (by decide +kernel), List.mem_of_getElem? (i := 2820) (by decide +kernel)⟩
theorem lw_p155 : lw_okq (⟨"OptimaWorksModel", "readDeclaration", "()V"⟩, 163) := ⟨⟨by decide +kernel, by decide +kernel⟩, List.mem_of_getElem? (i := 2283) (by decide +kernel), List.mem_of_getElem? (i := 2823) (by decide +kernel), List.mem_of_getElem? (i := 2824) (by decide +kernel)⟩
theorem lw_p156 : lw_okq (⟨"OptimaWorksModel", "fresh", "()V"⟩, 163) := ⟨⟨by decide +kernel, by decide +kernel⟩, List.mem_of_getElem? (i := 2283) (by decide +kernel), List.mem_of_getElem? (i := 2827) (by decide +kernel), List.mem_of_getElem? (i := 2828) (by decide +kernel)⟩
theorem lw_p157 : lw_okq (⟨"OptimaWorksModel", "isKey", "(I)Z"⟩, 163) := ⟨⟨by decide +kernel, by decide +kernel⟩, List.mem_of_getElem? (i := 2283) (by decide +kernel), List.mem_of_getElem? (i := 2831) (by decide +kernel), List.mem_of_getElem? (i := 2832) (by decide +kernel)⟩
theorem lw_p158 : lw_okq (⟨"OptimaWorksModel", "readSetOf", "()V"⟩, 163) := ⟨⟨by decide +kernel, by decide +kernel⟩, List.mem_of_getElem? (i := 2283) (by decide +kernel), List.mem_of_getElem? (i := 2835) (by decide +kernel), List.mem_of_getElem? (i := 2836) (by decide +kernel)⟩
theorem lw_p159 : lw_okq (⟨"OptimaWorksModel", "readOwn", "()V"⟩, 163) := ⟨⟨by decide +kernel, by decide +kernel⟩, List.mem_of_getElem? (i := 2283) (by decide +kernel), List.mem_of_getElem? (i := 2839) (by decide +kernel), List.mem_of_getElem? (i := 2840) (by decide +kernel)⟩
def lw_privs_10 : List (MethodName × Nat) := [(⟨"OptimaWorks$NetDesk", "takeStops", "(I)V"⟩, 14), (⟨"OptimaWorks$NetDesk", "takePrices", "()V"⟩, 14), (⟨"OptimaWorks$NetDesk", "restFrom", "(II)I"⟩, 14), (⟨"OptimaWorks$NetDesk", "costOver", "(III)I"⟩, 14), (⟨"OptimaWorks$NetDesk", "nextStop", "(II)I"⟩, 14), (⟨"OptimaWorksModel", "next", "()V"⟩, 163), (⟨"OptimaWorksModel", "byteAt", "(I)I"⟩, 163), (⟨"OptimaWorksModel", "takeName", "()V"⟩, 163), (⟨"OptimaWorksModel", "key", "(II)I"⟩, 163), (⟨"OptimaWorksModel", "takeNumber", "()V"⟩, 163), (⟨"OptimaWorksModel", "takeSign", "(I)V"⟩, 163), (⟨"OptimaWorksModel", "readDeclaration", "()V"⟩, 163), (⟨"OptimaWorksModel", "fresh", "()V"⟩, 163), (⟨"OptimaWorksModel", "isKey", "(I)Z"⟩, 163), (⟨"OptimaWorksModel", "readSetOf", "()V"⟩, 163), (⟨"OptimaWorksModel", "readOwn", "()V"⟩, 163)]
theorem lw_r10 : ∀ q ∈ lw_privs_10, lw_okq q := List.forall_mem_cons.mpr ⟨lw_p144, List.forall_mem_cons.mpr ⟨lw_p145, List.forall_mem_cons.mpr ⟨lw_p146, List.forall_mem_cons.mpr ⟨lw_p147, List.forall_mem_cons.mpr ⟨lw_p148, List.forall_mem_cons.mpr ⟨lw_p149, List.forall_mem_cons.mpr ⟨lw_p150, List.forall_mem_cons.mpr ⟨lw_p151, List.forall_mem_cons.mpr ⟨lw_p152, List.forall_mem_cons.mpr ⟨lw_p153, List.forall_mem_cons.mpr ⟨lw_p154, List.forall_mem_cons.mpr ⟨lw_p155, List.forall_mem_cons.mpr ⟨lw_p156, List.forall_mem_cons.mpr ⟨lw_p157, List.forall_mem_cons.mpr ⟨lw_p158, List.forall_mem_cons.mpr ⟨lw_p159, fun _ h => absurd h List.not_mem_nil⟩⟩⟩⟩⟩⟩⟩⟩⟩⟩⟩⟩⟩⟩⟩⟩
theorem lw_p160 : lw_okq (⟨"OptimaWorksModel", "wrong", "()V"⟩, 163) := ⟨⟨by decide +kernel, by decide +kernel⟩, List.mem_of_getElem? (i := 2283) (by decide +kernel), List.mem_of_getElem? (i := 2843) (by decide +kernel), List.mem_of_getElem? (i := 2844) (by decide +kernel)⟩
theorem lw_p161 : lw_okq (⟨"OptimaWorksModel", "faultAt", "(II)V"⟩, 163) := ⟨⟨by decide +kernel, by decide +kernel⟩, List.mem_of_getElem? (i := 2283) (by decide +kernel), List.mem_of_getElem? (i := 2847) (by decide +kernel), List.mem_of_getElem? (i := 2848) (by decide +kernel)⟩
theorem lw_p162 : lw_okq (⟨"OptimaWorksModel", "declared", "()I"⟩, 163) := ⟨⟨by decide +kernel, by decide +kernel⟩, List.mem_of_getElem? (i := 2283) (by decide +kernel), List.mem_of_getElem? (i := 2851) (by decide +kernel), List.mem_of_getElem? (i := 2852) (by decide +kernel)⟩
theorem lw_p163 : lw_okq (⟨"OptimaWorksModel", "sameText", "(IIII)Z"⟩, 163) := ⟨⟨by decide +kernel, by decide +kernel⟩, List.mem_of_getElem? (i := 2283) (by decide +kernel), List.mem_of_getElem? (i := 2855) (by decide +kernel), List.mem_of_getElem? (i := 2856) (by decide +kernel)⟩
theorem lw_p164 : lw_okq (⟨"OptimaWorksModel", "needSign", "(I)Z"⟩, 163) := ⟨⟨by decide +kernel, by decide +kernel⟩, List.mem_of_getElem? (i := 2283) (by decide +kernel), List.mem_of_getElem? (i := 2859) (by decide +kernel), List.mem_of_getElem? (i := 2860) (by decide +kernel)⟩
theorem lw_p165 : lw_okq (⟨"OptimaWorksModel", "isSign", "(I)Z"⟩, 163) := ⟨⟨by decide +kernel, by decide +kernel⟩, List.mem_of_getElem? (i := 2283) (by decide +kernel), List.mem_of_getElem? (i := 2863) (by decide +kernel), List.mem_of_getElem? (i := 2864) (by decide +kernel)⟩
theorem lw_p166 : lw_okq (⟨"OptimaWorksModel", "readWhole", "()I"⟩, 163) := ⟨⟨by decide +kernel, by decide +kernel⟩, List.mem_of_getElem? (i := 2283) (by decide +kernel), List.mem_of_getElem? (i := 2867) (by decide +kernel), List.mem_of_getElem? (i := 2868) (by decide +kernel)⟩
theorem lw_p167 : lw_okq (⟨"OptimaWorksModel", "declare", "(II)V"⟩, 163) := ⟨⟨by decide +kernel, by decide +kernel⟩, List.mem_of_getElem? (i := 2283) (by decide +kernel), List.mem_of_getElem? (i := 2871) (by decide +kernel), List.mem_of_getElem? (i := 2872) (by decide +kernel)⟩
theorem lw_p168 : lw_okq (⟨"OptimaWorksModel", "readParam", "()V"⟩, 163) := ⟨⟨by decide +kernel, by decide +kernel⟩, List.mem_of_getElem? (i := 2283) (by decide +kernel), List.mem_of_getElem? (i := 2875) (by decide +kernel), List.mem_of_getElem? (i := 2876) (by decide +kernel)⟩
theorem lw_p169 : lw_okq (⟨"OptimaWorksModel", "readPlaces", "()V"⟩, 163) := ⟨⟨by decide +kernel, by decide +kernel⟩, List.mem_of_getElem? (i := 2283) (by decide +kernel), List.mem_of_getElem? (i := 2879) (by decide +kernel), List.mem_of_getElem? (i := 2880) (by decide +kernel)⟩
theorem lw_p170 : lw_okq (⟨"OptimaWorksModel", "readSet", "()I"⟩, 163) := ⟨⟨by decide +kernel, by decide +kernel⟩, List.mem_of_getElem? (i := 2283) (by decide +kernel), List.mem_of_getElem? (i := 2883) (by decide +kernel), List.mem_of_getElem? (i := 2884) (by decide +kernel)⟩
theorem lw_p171 : lw_okq (⟨"OptimaWorksModel", "placeMembers", "()I"⟩, 163) := ⟨⟨by decide +kernel, by decide +kernel⟩, List.mem_of_getElem? (i := 2283) (by decide +kernel), List.mem_of_getElem? (i := 2887) (by decide +kernel), List.mem_of_getElem? (i := 2888) (by decide +kernel)⟩
theorem lw_p172 : lw_okq (⟨"OptimaWorksModel", "readPart", "()V"⟩, 163) := ⟨⟨by decide +kernel, by decide +kernel⟩, List.mem_of_getElem? (i := 2283) (by decide +kernel), List.mem_of_getElem? (i := 2891) (by decide +kernel), List.mem_of_getElem? (i := 2892) (by decide +kernel)⟩
theorem lw_p173 : lw_okq (⟨"OptimaWorksModel", "read1", "(I)I"⟩, 163) := ⟨⟨by decide +kernel, by decide +kernel⟩, List.mem_of_getElem? (i := 2283) (by decide +kernel), List.mem_of_getElem? (i := 2895) (by decide +kernel), List.mem_of_getElem? (i := 2896) (by decide +kernel)⟩
theorem lw_p174 : lw_okq (⟨"OptimaWorksModel", "begin1", "(I)V"⟩, 163) := ⟨⟨by decide +kernel, by decide +kernel⟩, List.mem_of_getElem? (i := 2283) (by decide +kernel), List.mem_of_getElem? (i := 2899) (by decide +kernel), List.mem_of_getElem? (i := 2900) (by decide +kernel)⟩
theorem lw_p175 : lw_okq (⟨"OptimaWorksModel", "canBegin", "()Z"⟩, 163) := ⟨⟨by decide +kernel, by decide +kernel⟩, List.mem_of_getElem? (i := 2283) (by decide +kernel), List.mem_of_getElem? (i := 2903) (by decide +kernel), List.mem_of_getElem? (i := 2904) (by decide +kernel)⟩
def lw_privs_11 : List (MethodName × Nat) := [(⟨"OptimaWorksModel", "wrong", "()V"⟩, 163), (⟨"OptimaWorksModel", "faultAt", "(II)V"⟩, 163), (⟨"OptimaWorksModel", "declared", "()I"⟩, 163), (⟨"OptimaWorksModel", "sameText", "(IIII)Z"⟩, 163), (⟨"OptimaWorksModel", "needSign", "(I)Z"⟩, 163), (⟨"OptimaWorksModel", "isSign", "(I)Z"⟩, 163), (⟨"OptimaWorksModel", "readWhole", "()I"⟩, 163), (⟨"OptimaWorksModel", "declare", "(II)V"⟩, 163), (⟨"OptimaWorksModel", "readParam", "()V"⟩, 163), (⟨"OptimaWorksModel", "readPlaces", "()V"⟩, 163), (⟨"OptimaWorksModel", "readSet", "()I"⟩, 163), (⟨"OptimaWorksModel", "placeMembers", "()I"⟩, 163), (⟨"OptimaWorksModel", "readPart", "()V"⟩, 163), (⟨"OptimaWorksModel", "read1", "(I)I"⟩, 163), (⟨"OptimaWorksModel", "begin1", "(I)V"⟩, 163), (⟨"OptimaWorksModel", "canBegin", "()Z"⟩, 163)]
theorem lw_r11 : ∀ q ∈ lw_privs_11, lw_okq q := List.forall_mem_cons.mpr ⟨lw_p160, List.forall_mem_cons.mpr ⟨lw_p161, List.forall_mem_cons.mpr ⟨lw_p162, List.forall_mem_cons.mpr ⟨lw_p163, List.forall_mem_cons.mpr ⟨lw_p164, List.forall_mem_cons.mpr ⟨lw_p165, List.forall_mem_cons.mpr ⟨lw_p166, List.forall_mem_cons.mpr ⟨lw_p167, List.forall_mem_cons.mpr ⟨lw_p168, List.forall_mem_cons.mpr ⟨lw_p169, List.forall_mem_cons.mpr ⟨lw_p170, List.forall_mem_cons.mpr ⟨lw_p171, List.forall_mem_cons.mpr ⟨lw_p172, List.forall_mem_cons.mpr ⟨lw_p173, List.forall_mem_cons.mpr ⟨lw_p174, List.forall_mem_cons.mpr ⟨lw_p175, fun _ h => absurd h List.not_mem_nil⟩⟩⟩⟩⟩⟩⟩⟩⟩⟩⟩⟩⟩⟩⟩⟩
theorem lw_p176 : lw_okq (⟨"OptimaWorksModel", "binder", "()I"⟩, 163) := ⟨⟨by decide +kernel, by decide +kernel⟩, List.mem_of_getElem? (i := 2283) (by decide +kernel), List.mem_of_getElem? (i := 2907) (by decide +kernel), List.mem_of_getElem? (i := 2908) (by decide +kernel)⟩
theorem lw_p177 : lw_okq (⟨"OptimaWorksModel", "isNode", "(I)Z"⟩, 163) := ⟨⟨by decide +kernel, by decide +kernel⟩, List.mem_of_getElem? (i := 2283) (by decide +kernel), List.mem_of_getElem? (i := 2911) (by decide +kernel), List.mem_of_getElem? (i := 2912) (by decide +kernel)⟩
theorem lw_p178 : lw_okq (⟨"OptimaWorksModel", "readLinear", "(I)V"⟩, 163) := ⟨⟨by decide +kernel, by decide +kernel⟩, List.mem_of_getElem? (i := 2283) (by decide +kernel), List.mem_of_getElem? (i := 2915) (by decide +kernel), List.mem_of_getElem? (i := 2916) (by decide +kernel)⟩
theorem lw_p179 : lw_okq (⟨"OptimaWorksModel", "node", "(IIIII)I"⟩, 163) := ⟨⟨by decide +kernel, by decide +kernel⟩, List.mem_of_getElem? (i := 2283) (by decide +kernel), List.mem_of_getElem? (i := 2919) (by decide +kernel), List.mem_of_getElem? (i := 2920) (by decide +kernel)⟩
theorem lw_p180 : lw_okq (⟨"OptimaWorksModel", "end1", "(I)V"⟩, 163) := ⟨⟨by decide +kernel, by decide +kernel⟩, List.mem_of_getElem? (i := 2283) (by decide +kernel), List.mem_of_getElem? (i := 2923) (by decide +kernel), List.mem_of_getElem? (i := 2924) (by decide +kernel)⟩
theorem lw_p181 : lw_okq (⟨"OptimaWorksModel", "readFactor", "(I)V"⟩, 163) := ⟨⟨by decide +kernel, by decide +kernel⟩, List.mem_of_getElem? (i := 2283) (by decide +kernel), List.mem_of_getElem? (i := 2927) (by decide +kernel), List.mem_of_getElem? (i := 2928) (by decide +kernel)⟩
theorem lw_p182 : lw_okq (⟨"OptimaWorksModel", "beginFactor", "(I)V"⟩, 163) := ⟨⟨by decide +kernel, by decide +kernel⟩, List.mem_of_getElem? (i := 2283) (by decide +kernel), List.mem_of_getElem? (i := 2931) (by decide +kernel), List.mem_of_getElem? (i := 2932) (by decide +kernel)⟩
theorem lw_p183 : lw_okq (⟨"OptimaWorksModel", "readBinding", "()I"⟩, 163) := ⟨⟨by decide +kernel, by decide +kernel⟩, List.mem_of_getElem? (i := 2283) (by decide +kernel), List.mem_of_getElem? (i := 2935) (by decide +kernel), List.mem_of_getElem? (i := 2936) (by decide +kernel)⟩
theorem lw_p184 : lw_okq (⟨"OptimaWorksModel", "readBinder", "()I"⟩, 163) := ⟨⟨by decide +kernel, by decide +kernel⟩, List.mem_of_getElem? (i := 2283) (by decide +kernel), List.mem_of_getElem? (i := 2939) (by decide +kernel), List.mem_of_getElem? (i := 2940) (by decide +kernel)⟩
theorem lw_p185 : lw_okq (⟨"OptimaWorksModel", "needKey", "(I)Z"⟩, 163) := ⟨⟨by decide +kernel, by decide +kernel⟩, List.mem_of_getElem? (i := 2283) (by decide +kernel), List.mem_of_getElem? (i := 2943) (by decide +kernel), List.mem_of_getElem? (i := 2944) (by decide +kernel)⟩
theorem lw_p186 : lw_okq (⟨"OptimaWorksModel", "closeSum", "(I)V"⟩, 163) := ⟨⟨by decide +kernel, by decide +kernel⟩, List.mem_of_getElem? (i := 2283) (by decide +kernel), List.mem_of_getElem? (i := 2947) (by decide +kernel), List.mem_of_getElem? (i := 2948) (by decide +kernel)⟩
theorem lw_p187 : lw_okq (⟨"OptimaWorksModel", "beginName", "(I)V"⟩, 163) := ⟨⟨by decide +kernel, by decide +kernel⟩, List.mem_of_getElem? (i := 2283) (by decide +kernel), List.mem_of_getElem? (i := 2951) (by decide +kernel), List.mem_of_getElem? (i := 2952) (by decide +kernel)⟩
theorem lw_p188 : lw_okq (⟨"OptimaWorksModel", "placesOf", "(I)I"⟩, 163) := ⟨⟨by decide +kernel, by decide +kernel⟩, List.mem_of_getElem? (i := 2283) (by decide +kernel), List.mem_of_getElem? (i := 2955) (by decide +kernel), List.mem_of_getElem? (i := 2956) (by decide +kernel)⟩
theorem lw_p189 : lw_okq (⟨"OptimaWorksModel", "readTruth", "(I)V"⟩, 163) := ⟨⟨by decide +kernel, by decide +kernel⟩, List.mem_of_getElem? (i := 2283) (by decide +kernel), List.mem_of_getElem? (i := 2959) (by decide +kernel), List.mem_of_getElem? (i := 2960) (by decide +kernel)⟩
theorem lw_p190 : lw_okq (⟨"OptimaWorksModel", "readOne", "(I)V"⟩, 163) := ⟨⟨by decide +kernel, by decide +kernel⟩, List.mem_of_getElem? (i := 2283) (by decide +kernel), List.mem_of_getElem? (i := 2963) (by decide +kernel), List.mem_of_getElem? (i := 2964) (by decide +kernel)⟩
theorem lw_p191 : lw_okq (⟨"OptimaWorksModel", "workNumber", "(I)V"⟩, 163) := ⟨⟨by decide +kernel, by decide +kernel⟩, List.mem_of_getElem? (i := 2283) (by decide +kernel), List.mem_of_getElem? (i := 2967) (by decide +kernel), List.mem_of_getElem? (i := 2968) (by decide +kernel)⟩
def lw_privs_12 : List (MethodName × Nat) := [(⟨"OptimaWorksModel", "binder", "()I"⟩, 163), (⟨"OptimaWorksModel", "isNode", "(I)Z"⟩, 163), (⟨"OptimaWorksModel", "readLinear", "(I)V"⟩, 163), (⟨"OptimaWorksModel", "node", "(IIIII)I"⟩, 163), (⟨"OptimaWorksModel", "end1", "(I)V"⟩, 163), (⟨"OptimaWorksModel", "readFactor", "(I)V"⟩, 163), (⟨"OptimaWorksModel", "beginFactor", "(I)V"⟩, 163), (⟨"OptimaWorksModel", "readBinding", "()I"⟩, 163), (⟨"OptimaWorksModel", "readBinder", "()I"⟩, 163), (⟨"OptimaWorksModel", "needKey", "(I)Z"⟩, 163), (⟨"OptimaWorksModel", "closeSum", "(I)V"⟩, 163), (⟨"OptimaWorksModel", "beginName", "(I)V"⟩, 163), (⟨"OptimaWorksModel", "placesOf", "(I)I"⟩, 163), (⟨"OptimaWorksModel", "readTruth", "(I)V"⟩, 163), (⟨"OptimaWorksModel", "readOne", "(I)V"⟩, 163), (⟨"OptimaWorksModel", "workNumber", "(I)V"⟩, 163)]
theorem lw_r12 : ∀ q ∈ lw_privs_12, lw_okq q := List.forall_mem_cons.mpr ⟨lw_p176, List.forall_mem_cons.mpr ⟨lw_p177, List.forall_mem_cons.mpr ⟨lw_p178, List.forall_mem_cons.mpr ⟨lw_p179, List.forall_mem_cons.mpr ⟨lw_p180, List.forall_mem_cons.mpr ⟨lw_p181, List.forall_mem_cons.mpr ⟨lw_p182, List.forall_mem_cons.mpr ⟨lw_p183, List.forall_mem_cons.mpr ⟨lw_p184, List.forall_mem_cons.mpr ⟨lw_p185, List.forall_mem_cons.mpr ⟨lw_p186, List.forall_mem_cons.mpr ⟨lw_p187, List.forall_mem_cons.mpr ⟨lw_p188, List.forall_mem_cons.mpr ⟨lw_p189, List.forall_mem_cons.mpr ⟨lw_p190, List.forall_mem_cons.mpr ⟨lw_p191, fun _ h => absurd h List.not_mem_nil⟩⟩⟩⟩⟩⟩⟩⟩⟩⟩⟩⟩⟩⟩⟩⟩
theorem lw_p192 : lw_okq (⟨"OptimaWorksModel", "work", "(I)V"⟩, 163) := ⟨⟨by decide +kernel, by decide +kernel⟩, List.mem_of_getElem? (i := 2283) (by decide +kernel), List.mem_of_getElem? (i := 2971) (by decide +kernel), List.mem_of_getElem? (i := 2972) (by decide +kernel)⟩
theorem lw_p193 : lw_okq (⟨"OptimaWorksModel", "call", "(I)V"⟩, 163) := ⟨⟨by decide +kernel, by decide +kernel⟩, List.mem_of_getElem? (i := 2283) (by decide +kernel), List.mem_of_getElem? (i := 2975) (by decide +kernel), List.mem_of_getElem? (i := 2976) (by decide +kernel)⟩
theorem lw_p194 : lw_okq (⟨"OptimaWorksModel", "workFrame", "(I)V"⟩, 163) := ⟨⟨by decide +kernel, by decide +kernel⟩, List.mem_of_getElem? (i := 2283) (by decide +kernel), List.mem_of_getElem? (i := 2979) (by decide +kernel), List.mem_of_getElem? (i := 2980) (by decide +kernel)⟩
theorem lw_p195 : lw_okq (⟨"OptimaWorksModel", "stepOne", "()V"⟩, 163) := ⟨⟨by decide +kernel, by decide +kernel⟩, List.mem_of_getElem? (i := 2283) (by decide +kernel), List.mem_of_getElem? (i := 2983) (by decide +kernel), List.mem_of_getElem? (i := 2984) (by decide +kernel)⟩
theorem lw_p196 : lw_okq (⟨"OptimaWorksModel", "nought", "(I)V"⟩, 163) := ⟨⟨by decide +kernel, by decide +kernel⟩, List.mem_of_getElem? (i := 2283) (by decide +kernel), List.mem_of_getElem? (i := 2987) (by decide +kernel), List.mem_of_getElem? (i := 2988) (by decide +kernel)⟩
theorem lw_p197 : lw_okq (⟨"OptimaWorksModel", "workName", "(II)V"⟩, 163) := ⟨⟨by decide +kernel, by decide +kernel⟩, List.mem_of_getElem? (i := 2283) (by decide +kernel), List.mem_of_getElem? (i := 2991) (by decide +kernel), List.mem_of_getElem? (i := 2992) (by decide +kernel)⟩
theorem lw_p198 : lw_okq (⟨"OptimaWorksModel", "member", "(II)I"⟩, 163) := ⟨⟨by decide +kernel, by decide +kernel⟩, List.mem_of_getElem? (i := 2283) (by decide +kernel), List.mem_of_getElem? (i := 2995) (by decide +kernel), List.mem_of_getElem? (i := 2996) (by decide +kernel)⟩
theorem lw_p199 : lw_okq (⟨"OptimaWorksModel", "hasVariables", "(I)Z"⟩, 163) := ⟨⟨by decide +kernel, by decide +kernel⟩, List.mem_of_getElem? (i := 2283) (by decide +kernel), List.mem_of_getElem? (i := 2999) (by decide +kernel), List.mem_of_getElem? (i := 3000) (by decide +kernel)⟩
theorem lw_p200 : lw_okq (⟨"OptimaWorksModel", "workSum", "(II)V"⟩, 163) := ⟨⟨by decide +kernel, by decide +kernel⟩, List.mem_of_getElem? (i := 2283) (by decide +kernel), List.mem_of_getElem? (i := 3003) (by decide +kernel), List.mem_of_getElem? (i := 3004) (by decide +kernel)⟩
theorem lw_p201 : lw_okq (⟨"OptimaWorksModel", "membersOf", "(I)I"⟩, 163) := ⟨⟨by decide +kernel, by decide +kernel⟩, List.mem_of_getElem? (i := 2283) (by decide +kernel), List.mem_of_getElem? (i := 3007) (by decide +kernel), List.mem_of_getElem? (i := 3008) (by decide +kernel)⟩
theorem lw_p202 : lw_okq (⟨"OptimaWorksModel", "bind", "(II)V"⟩, 163) := ⟨⟨by decide +kernel, by decide +kernel⟩, List.mem_of_getElem? (i := 2283) (by decide +kernel), List.mem_of_getElem? (i := 3011) (by decide +kernel), List.mem_of_getElem? (i := 3012) (by decide +kernel)⟩
theorem lw_p203 : lw_okq (⟨"OptimaWorksModel", "join", "(IIII)V"⟩, 163) := ⟨⟨by decide +kernel, by decide +kernel⟩, List.mem_of_getElem? (i := 2283) (by decide +kernel), List.mem_of_getElem? (i := 3015) (by decide +kernel), List.mem_of_getElem? (i := 3016) (by decide +kernel)⟩
theorem lw_p204 : lw_okq (⟨"OptimaWorksModel", "put1", "(IIJJI)V"⟩, 163) := ⟨⟨by decide +kernel, by decide +kernel⟩, List.mem_of_getElem? (i := 2283) (by decide +kernel), List.mem_of_getElem? (i := 3019) (by decide +kernel), List.mem_of_getElem? (i := 3020) (by decide +kernel)⟩
theorem lw_p205 : lw_okq (⟨"OptimaWorksModel", "workJoined", "(II)V"⟩, 163) := ⟨⟨by decide +kernel, by decide +kernel⟩, List.mem_of_getElem? (i := 2283) (by decide +kernel), List.mem_of_getElem? (i := 3028) (by decide +kernel), List.mem_of_getElem? (i := 3029) (by decide +kernel)⟩
theorem lw_p206 : lw_okq (⟨"OptimaWorksModel", "workCompare", "(II)V"⟩, 163) := ⟨⟨by decide +kernel, by decide +kernel⟩, List.mem_of_getElem? (i := 2283) (by decide +kernel), List.mem_of_getElem? (i := 3032) (by decide +kernel), List.mem_of_getElem? (i := 3033) (by decide +kernel)⟩
theorem lw_p207 : lw_okq (⟨"OptimaWorksModel", "workPair", "(II)V"⟩, 163) := ⟨⟨by decide +kernel, by decide +kernel⟩, List.mem_of_getElem? (i := 2283) (by decide +kernel), List.mem_of_getElem? (i := 3036) (by decide +kernel), List.mem_of_getElem? (i := 3037) (by decide +kernel)⟩
def lw_privs_13 : List (MethodName × Nat) := [(⟨"OptimaWorksModel", "work", "(I)V"⟩, 163), (⟨"OptimaWorksModel", "call", "(I)V"⟩, 163), (⟨"OptimaWorksModel", "workFrame", "(I)V"⟩, 163), (⟨"OptimaWorksModel", "stepOne", "()V"⟩, 163), (⟨"OptimaWorksModel", "nought", "(I)V"⟩, 163), (⟨"OptimaWorksModel", "workName", "(II)V"⟩, 163), (⟨"OptimaWorksModel", "member", "(II)I"⟩, 163), (⟨"OptimaWorksModel", "hasVariables", "(I)Z"⟩, 163), (⟨"OptimaWorksModel", "workSum", "(II)V"⟩, 163), (⟨"OptimaWorksModel", "membersOf", "(I)I"⟩, 163), (⟨"OptimaWorksModel", "bind", "(II)V"⟩, 163), (⟨"OptimaWorksModel", "join", "(IIII)V"⟩, 163), (⟨"OptimaWorksModel", "put1", "(IIJJI)V"⟩, 163), (⟨"OptimaWorksModel", "workJoined", "(II)V"⟩, 163), (⟨"OptimaWorksModel", "workCompare", "(II)V"⟩, 163), (⟨"OptimaWorksModel", "workPair", "(II)V"⟩, 163)]
theorem lw_r13 : ∀ q ∈ lw_privs_13, lw_okq q := List.forall_mem_cons.mpr ⟨lw_p192, List.forall_mem_cons.mpr ⟨lw_p193, List.forall_mem_cons.mpr ⟨lw_p194, List.forall_mem_cons.mpr ⟨lw_p195, List.forall_mem_cons.mpr ⟨lw_p196, List.forall_mem_cons.mpr ⟨lw_p197, List.forall_mem_cons.mpr ⟨lw_p198, List.forall_mem_cons.mpr ⟨lw_p199, List.forall_mem_cons.mpr ⟨lw_p200, List.forall_mem_cons.mpr ⟨lw_p201, List.forall_mem_cons.mpr ⟨lw_p202, List.forall_mem_cons.mpr ⟨lw_p203, List.forall_mem_cons.mpr ⟨lw_p204, List.forall_mem_cons.mpr ⟨lw_p205, List.forall_mem_cons.mpr ⟨lw_p206, List.forall_mem_cons.mpr ⟨lw_p207, fun _ h => absurd h List.not_mem_nil⟩⟩⟩⟩⟩⟩⟩⟩⟩⟩⟩⟩⟩⟩⟩⟩
theorem lw_p208 : lw_okq (⟨"OptimaWorksModel", "scale", "(IIZI)V"⟩, 163) := ⟨⟨by decide +kernel, by decide +kernel⟩, List.mem_of_getElem? (i := 2283) (by decide +kernel), List.mem_of_getElem? (i := 3040) (by decide +kernel), List.mem_of_getElem? (i := 3041) (by decide +kernel)⟩
theorem lw_p209 : lw_okq (⟨"OptimaWorksModel", "readVar", "()V"⟩, 163) := ⟨⟨by decide +kernel, by decide +kernel⟩, List.mem_of_getElem? (i := 2283) (by decide +kernel), List.mem_of_getElem? (i := 3044) (by decide +kernel), List.mem_of_getElem? (i := 3045) (by decide +kernel)⟩
theorem lw_p210 : lw_okq (⟨"OptimaWorksModel", "bound", "(I)I"⟩, 163) := ⟨⟨by decide +kernel, by decide +kernel⟩, List.mem_of_getElem? (i := 2283) (by decide +kernel), List.mem_of_getElem? (i := 3048) (by decide +kernel), List.mem_of_getElem? (i := 3049) (by decide +kernel)⟩
theorem lw_p211 : lw_okq (⟨"OptimaWorksModel", "grow", "(II)V"⟩, 163) := ⟨⟨by decide +kernel, by decide +kernel⟩, List.mem_of_getElem? (i := 2283) (by decide +kernel), List.mem_of_getElem? (i := 3052) (by decide +kernel), List.mem_of_getElem? (i := 3053) (by decide +kernel)⟩
theorem lw_p212 : lw_okq (⟨"OptimaWorksModel", "readRow", "()V"⟩, 163) := ⟨⟨by decide +kernel, by decide +kernel⟩, List.mem_of_getElem? (i := 2283) (by decide +kernel), List.mem_of_getElem? (i := 3056) (by decide +kernel), List.mem_of_getElem? (i := 3057) (by decide +kernel)⟩
theorem lw_p213 : lw_okq (⟨"OptimaWorksModel", "doRow", "(IIII)V"⟩, 163) := ⟨⟨by decide +kernel, by decide +kernel⟩, List.mem_of_getElem? (i := 2283) (by decide +kernel), List.mem_of_getElem? (i := 3060) (by decide +kernel), List.mem_of_getElem? (i := 3061) (by decide +kernel)⟩
theorem lw_p214 : lw_okq (⟨"OptimaWorksModel", "keep", "(IIII)V"⟩, 163) := ⟨⟨by decide +kernel, by decide +kernel⟩, List.mem_of_getElem? (i := 2283) (by decide +kernel), List.mem_of_getElem? (i := 3064) (by decide +kernel), List.mem_of_getElem? (i := 3065) (by decide +kernel)⟩
theorem lw_p215 : lw_okq (⟨"OptimaWorksModel", "put", "(IJ)V"⟩, 163) := ⟨⟨by decide +kernel, by decide +kernel⟩, List.mem_of_getElem? (i := 2283) (by decide +kernel), List.mem_of_getElem? (i := 3068) (by decide +kernel), List.mem_of_getElem? (i := 3069) (by decide +kernel)⟩
theorem lw_p216 : lw_okq (⟨"OptimaWorksModel", "common", "(III)V"⟩, 163) := ⟨⟨by decide +kernel, by decide +kernel⟩, List.mem_of_getElem? (i := 2283) (by decide +kernel), List.mem_of_getElem? (i := 3073) (by decide +kernel), List.mem_of_getElem? (i := 3074) (by decide +kernel)⟩
theorem lw_p217 : lw_okq (⟨"OptimaWorksModel", "copy", "(II)V"⟩, 163) := ⟨⟨by decide +kernel, by decide +kernel⟩, List.mem_of_getElem? (i := 2283) (by decide +kernel), List.mem_of_getElem? (i := 3077) (by decide +kernel), List.mem_of_getElem? (i := 3078) (by decide +kernel)⟩
theorem lw_p218 : lw_okq (⟨"OptimaWorksModel", "sign", "(I)I"⟩, 163) := ⟨⟨by decide +kernel, by decide +kernel⟩, List.mem_of_getElem? (i := 2283) (by decide +kernel), List.mem_of_getElem? (i := 3081) (by decide +kernel), List.mem_of_getElem? (i := 3082) (by decide +kernel)⟩
theorem lw_p219 : lw_okq (⟨"OptimaWorksModel", "turn", "(I)V"⟩, 163) := ⟨⟨by decide +kernel, by decide +kernel⟩, List.mem_of_getElem? (i := 2283) (by decide +kernel), List.mem_of_getElem? (i := 3085) (by decide +kernel), List.mem_of_getElem? (i := 3086) (by decide +kernel)⟩
theorem lw_p220 : lw_okq (⟨"OptimaWorksModel", "divide", "(IIII)V"⟩, 163) := ⟨⟨by decide +kernel, by decide +kernel⟩, List.mem_of_getElem? (i := 2283) (by decide +kernel), List.mem_of_getElem? (i := 3089) (by decide +kernel), List.mem_of_getElem? (i := 3090) (by decide +kernel)⟩
theorem lw_p221 : lw_okq (⟨"OptimaWorksModel", "bare", "(II)I"⟩, 163) := ⟨⟨by decide +kernel, by decide +kernel⟩, List.mem_of_getElem? (i := 2283) (by decide +kernel), List.mem_of_getElem? (i := 3093) (by decide +kernel), List.mem_of_getElem? (i := 3094) (by decide +kernel)⟩
theorem lw_p222 : lw_okq (⟨"OptimaWorksModel", "carry", "(III)V"⟩, 163) := ⟨⟨by decide +kernel, by decide +kernel⟩, List.mem_of_getElem? (i := 2283) (by decide +kernel), List.mem_of_getElem? (i := 3097) (by decide +kernel), List.mem_of_getElem? (i := 3098) (by decide +kernel)⟩
theorem lw_p223 : lw_okq (⟨"OptimaWorksModel", "isMore", "(I)Z"⟩, 163) := ⟨⟨by decide +kernel, by decide +kernel⟩, List.mem_of_getElem? (i := 2283) (by decide +kernel), List.mem_of_getElem? (i := 3102) (by decide +kernel), List.mem_of_getElem? (i := 3103) (by decide +kernel)⟩
def lw_privs_14 : List (MethodName × Nat) := [(⟨"OptimaWorksModel", "scale", "(IIZI)V"⟩, 163), (⟨"OptimaWorksModel", "readVar", "()V"⟩, 163), (⟨"OptimaWorksModel", "bound", "(I)I"⟩, 163), (⟨"OptimaWorksModel", "grow", "(II)V"⟩, 163), (⟨"OptimaWorksModel", "readRow", "()V"⟩, 163), (⟨"OptimaWorksModel", "doRow", "(IIII)V"⟩, 163), (⟨"OptimaWorksModel", "keep", "(IIII)V"⟩, 163), (⟨"OptimaWorksModel", "put", "(IJ)V"⟩, 163), (⟨"OptimaWorksModel", "common", "(III)V"⟩, 163), (⟨"OptimaWorksModel", "copy", "(II)V"⟩, 163), (⟨"OptimaWorksModel", "sign", "(I)I"⟩, 163), (⟨"OptimaWorksModel", "turn", "(I)V"⟩, 163), (⟨"OptimaWorksModel", "divide", "(IIII)V"⟩, 163), (⟨"OptimaWorksModel", "bare", "(II)I"⟩, 163), (⟨"OptimaWorksModel", "carry", "(III)V"⟩, 163), (⟨"OptimaWorksModel", "isMore", "(I)Z"⟩, 163)]
theorem lw_r14 : ∀ q ∈ lw_privs_14, lw_okq q := List.forall_mem_cons.mpr ⟨lw_p208, List.forall_mem_cons.mpr ⟨lw_p209, List.forall_mem_cons.mpr ⟨lw_p210, List.forall_mem_cons.mpr ⟨lw_p211, List.forall_mem_cons.mpr ⟨lw_p212, List.forall_mem_cons.mpr ⟨lw_p213, List.forall_mem_cons.mpr ⟨lw_p214, List.forall_mem_cons.mpr ⟨lw_p215, List.forall_mem_cons.mpr ⟨lw_p216, List.forall_mem_cons.mpr ⟨lw_p217, List.forall_mem_cons.mpr ⟨lw_p218, List.forall_mem_cons.mpr ⟨lw_p219, List.forall_mem_cons.mpr ⟨lw_p220, List.forall_mem_cons.mpr ⟨lw_p221, List.forall_mem_cons.mpr ⟨lw_p222, List.forall_mem_cons.mpr ⟨lw_p223, fun _ h => absurd h List.not_mem_nil⟩⟩⟩⟩⟩⟩⟩⟩⟩⟩⟩⟩⟩⟩⟩⟩
theorem lw_p224 : lw_okq (⟨"OptimaWorksModel", "times", "(III)V"⟩, 163) := ⟨⟨by decide +kernel, by decide +kernel⟩, List.mem_of_getElem? (i := 2283) (by decide +kernel), List.mem_of_getElem? (i := 3107) (by decide +kernel), List.mem_of_getElem? (i := 3108) (by decide +kernel)⟩
theorem lw_p225 : lw_okq (⟨"OptimaWorksModel", "whole1", "(I)V"⟩, 163) := ⟨⟨by decide +kernel, by decide +kernel⟩, List.mem_of_getElem? (i := 2283) (by decide +kernel), List.mem_of_getElem? (i := 3111) (by decide +kernel), List.mem_of_getElem? (i := 3112) (by decide +kernel)⟩
theorem lw_p226 : lw_okq (⟨"OptimaWorksModel", "small", "(I)I"⟩, 163) := ⟨⟨by decide +kernel, by decide +kernel⟩, List.mem_of_getElem? (i := 2283) (by decide +kernel), List.mem_of_getElem? (i := 3117) (by decide +kernel), List.mem_of_getElem? (i := 3118) (by decide +kernel)⟩
theorem lw_p227 : lw_okq (⟨"OptimaWorksModel", "readDifferent", "()V"⟩, 163) := ⟨⟨by decide +kernel, by decide +kernel⟩, List.mem_of_getElem? (i := 2283) (by decide +kernel), List.mem_of_getElem? (i := 3121) (by decide +kernel), List.mem_of_getElem? (i := 3122) (by decide +kernel)⟩
theorem lw_p228 : lw_okq (⟨"OptimaWorksModel", "readGoal", "()V"⟩, 163) := ⟨⟨by decide +kernel, by decide +kernel⟩, List.mem_of_getElem? (i := 2283) (by decide +kernel), List.mem_of_getElem? (i := 3125) (by decide +kernel), List.mem_of_getElem? (i := 3126) (by decide +kernel)⟩
theorem lw_p229 : lw_okq (⟨"OptimaWorksModel", "solves", "(ZZ)Z"⟩, 163) := ⟨⟨by decide +kernel, by decide +kernel⟩, List.mem_of_getElem? (i := 2283) (by decide +kernel), List.mem_of_getElem? (i := 3133) (by decide +kernel), List.mem_of_getElem? (i := 3134) (by decide +kernel)⟩
theorem lw_p230 : lw_okq (⟨"OptimaWorksModel", "begin", "(I)V"⟩, 163) := ⟨⟨by decide +kernel, by decide +kernel⟩, List.mem_of_getElem? (i := 2283) (by decide +kernel), List.mem_of_getElem? (i := 3137) (by decide +kernel), List.mem_of_getElem? (i := 3138) (by decide +kernel)⟩
theorem lw_p231 : lw_okq (⟨"OptimaWorksModel", "waysOf", "(I)V"⟩, 163) := ⟨⟨by decide +kernel, by decide +kernel⟩, List.mem_of_getElem? (i := 2283) (by decide +kernel), List.mem_of_getElem? (i := 3141) (by decide +kernel), List.mem_of_getElem? (i := 3142) (by decide +kernel)⟩
theorem lw_p232 : lw_okq (⟨"OptimaWorksModel", "wayRow", "(II)V"⟩, 163) := ⟨⟨by decide +kernel, by decide +kernel⟩, List.mem_of_getElem? (i := 2283) (by decide +kernel), List.mem_of_getElem? (i := 3145) (by decide +kernel), List.mem_of_getElem? (i := 3146) (by decide +kernel)⟩
theorem lw_p233 : lw_okq (⟨"OptimaWorksModel", "newLine", "()I"⟩, 163) := ⟨⟨by decide +kernel, by decide +kernel⟩, List.mem_of_getElem? (i := 2283) (by decide +kernel), List.mem_of_getElem? (i := 3149) (by decide +kernel), List.mem_of_getElem? (i := 3150) (by decide +kernel)⟩
theorem lw_p234 : lw_okq (⟨"OptimaWorksModel", "newRow", "()I"⟩, 163) := ⟨⟨by decide +kernel, by decide +kernel⟩, List.mem_of_getElem? (i := 2283) (by decide +kernel), List.mem_of_getElem? (i := 3153) (by decide +kernel), List.mem_of_getElem? (i := 3154) (by decide +kernel)⟩
theorem lw_p235 : lw_okq (⟨"OptimaWorksModel", "at", "(II)I"⟩, 163) := ⟨⟨by decide +kernel, by decide +kernel⟩, List.mem_of_getElem? (i := 2283) (by decide +kernel), List.mem_of_getElem? (i := 3157) (by decide +kernel), List.mem_of_getElem? (i := 3158) (by decide +kernel)⟩
theorem lw_p236 : lw_okq (⟨"OptimaWorksModel", "least", "(I)I"⟩, 163) := ⟨⟨by decide +kernel, by decide +kernel⟩, List.mem_of_getElem? (i := 2283) (by decide +kernel), List.mem_of_getElem? (i := 3162) (by decide +kernel), List.mem_of_getElem? (i := 3163) (by decide +kernel)⟩
theorem lw_p237 : lw_okq (⟨"OptimaWorksModel", "start", "()V"⟩, 163) := ⟨⟨by decide +kernel, by decide +kernel⟩, List.mem_of_getElem? (i := 2283) (by decide +kernel), List.mem_of_getElem? (i := 3166) (by decide +kernel), List.mem_of_getElem? (i := 3167) (by decide +kernel)⟩
theorem lw_p238 : lw_okq (⟨"OptimaWorksModel", "goalRow", "()I"⟩, 163) := ⟨⟨by decide +kernel, by decide +kernel⟩, List.mem_of_getElem? (i := 2283) (by decide +kernel), List.mem_of_getElem? (i := 3170) (by decide +kernel), List.mem_of_getElem? (i := 3171) (by decide +kernel)⟩
theorem lw_p239 : lw_okq (⟨"OptimaWorksModel", "scaleOf", "(I)V"⟩, 163) := ⟨⟨by decide +kernel, by decide +kernel⟩, List.mem_of_getElem? (i := 2283) (by decide +kernel), List.mem_of_getElem? (i := 3174) (by decide +kernel), List.mem_of_getElem? (i := 3175) (by decide +kernel)⟩
def lw_privs_15 : List (MethodName × Nat) := [(⟨"OptimaWorksModel", "times", "(III)V"⟩, 163), (⟨"OptimaWorksModel", "whole1", "(I)V"⟩, 163), (⟨"OptimaWorksModel", "small", "(I)I"⟩, 163), (⟨"OptimaWorksModel", "readDifferent", "()V"⟩, 163), (⟨"OptimaWorksModel", "readGoal", "()V"⟩, 163), (⟨"OptimaWorksModel", "solves", "(ZZ)Z"⟩, 163), (⟨"OptimaWorksModel", "begin", "(I)V"⟩, 163), (⟨"OptimaWorksModel", "waysOf", "(I)V"⟩, 163), (⟨"OptimaWorksModel", "wayRow", "(II)V"⟩, 163), (⟨"OptimaWorksModel", "newLine", "()I"⟩, 163), (⟨"OptimaWorksModel", "newRow", "()I"⟩, 163), (⟨"OptimaWorksModel", "at", "(II)I"⟩, 163), (⟨"OptimaWorksModel", "least", "(I)I"⟩, 163), (⟨"OptimaWorksModel", "start", "()V"⟩, 163), (⟨"OptimaWorksModel", "goalRow", "()I"⟩, 163), (⟨"OptimaWorksModel", "scaleOf", "(I)V"⟩, 163)]
theorem lw_r15 : ∀ q ∈ lw_privs_15, lw_okq q := List.forall_mem_cons.mpr ⟨lw_p224, List.forall_mem_cons.mpr ⟨lw_p225, List.forall_mem_cons.mpr ⟨lw_p226, List.forall_mem_cons.mpr ⟨lw_p227, List.forall_mem_cons.mpr ⟨lw_p228, List.forall_mem_cons.mpr ⟨lw_p229, List.forall_mem_cons.mpr ⟨lw_p230, List.forall_mem_cons.mpr ⟨lw_p231, List.forall_mem_cons.mpr ⟨lw_p232, List.forall_mem_cons.mpr ⟨lw_p233, List.forall_mem_cons.mpr ⟨lw_p234, List.forall_mem_cons.mpr ⟨lw_p235, List.forall_mem_cons.mpr ⟨lw_p236, List.forall_mem_cons.mpr ⟨lw_p237, List.forall_mem_cons.mpr ⟨lw_p238, List.forall_mem_cons.mpr ⟨lw_p239, fun _ h => absurd h List.not_mem_nil⟩⟩⟩⟩⟩⟩⟩⟩⟩⟩⟩⟩⟩⟩⟩⟩
theorem lw_p240 : lw_okq (⟨"OptimaWorksModel", "goalNumber", "(II)V"⟩, 163) := ⟨⟨by decide +kernel, by decide +kernel⟩, List.mem_of_getElem? (i := 2283) (by decide +kernel), List.mem_of_getElem? (i := 3178) (by decide +kernel), List.mem_of_getElem? (i := 3179) (by decide +kernel)⟩
theorem lw_p241 : lw_okq (⟨"OptimaWorksModel", "canKeep", "()Z"⟩, 163) := ⟨⟨by decide +kernel, by decide +kernel⟩, List.mem_of_getElem? (i := 2283) (by decide +kernel), List.mem_of_getElem? (i := 3182) (by decide +kernel), List.mem_of_getElem? (i := 3183) (by decide +kernel)⟩
theorem lw_p242 : lw_okq (⟨"OptimaWorksModel", "compare", "(II)I"⟩, 163) := ⟨⟨by decide +kernel, by decide +kernel⟩, List.mem_of_getElem? (i := 2283) (by decide +kernel), List.mem_of_getElem? (i := 3186) (by decide +kernel), List.mem_of_getElem? (i := 3187) (by decide +kernel)⟩
theorem lw_p243 : lw_okq (⟨"OptimaWorksModel", "hasten", "()V"⟩, 163) := ⟨⟨by decide +kernel, by decide +kernel⟩, List.mem_of_getElem? (i := 2283) (by decide +kernel), List.mem_of_getElem? (i := 3190) (by decide +kernel), List.mem_of_getElem? (i := 3191) (by decide +kernel)⟩
theorem lw_p244 : lw_okq (⟨"OptimaWorksModel", "worth", "(I)J"⟩, 163) := ⟨⟨by decide +kernel, by decide +kernel⟩, List.mem_of_getElem? (i := 2283) (by decide +kernel), List.mem_of_getElem? (i := 3194) (by decide +kernel), List.mem_of_getElem? (i := 3195) (by decide +kernel)⟩
theorem lw_p245 : lw_okq (⟨"OptimaWorksModel", "pivot", "(II)V"⟩, 163) := ⟨⟨by decide +kernel, by decide +kernel⟩, List.mem_of_getElem? (i := 2283) (by decide +kernel), List.mem_of_getElem? (i := 3200) (by decide +kernel), List.mem_of_getElem? (i := 3201) (by decide +kernel)⟩
theorem lw_p246 : lw_okq (⟨"OptimaWorksModel", "pivotsQuick", "(II)Z"⟩, 163) := ⟨⟨by decide +kernel, by decide +kernel⟩, List.mem_of_getElem? (i := 2283) (by decide +kernel), List.mem_of_getElem? (i := 3204) (by decide +kernel), List.mem_of_getElem? (i := 3205) (by decide +kernel)⟩
theorem lw_p247 : lw_okq (⟨"OptimaWorksModel", "place1", "(II)I"⟩, 163) := ⟨⟨by decide +kernel, by decide +kernel⟩, List.mem_of_getElem? (i := 2283) (by decide +kernel), List.mem_of_getElem? (i := 3208) (by decide +kernel), List.mem_of_getElem? (i := 3209) (by decide +kernel)⟩
theorem lw_p248 : lw_okq (⟨"OptimaWorksModel", "exchange", "(II)V"⟩, 163) := ⟨⟨by decide +kernel, by decide +kernel⟩, List.mem_of_getElem? (i := 2283) (by decide +kernel), List.mem_of_getElem? (i := 3212) (by decide +kernel), List.mem_of_getElem? (i := 3213) (by decide +kernel)⟩
theorem lw_p249 : lw_okq (⟨"OptimaWorksModel", "spill", "()V"⟩, 163) := ⟨⟨by decide +kernel, by decide +kernel⟩, List.mem_of_getElem? (i := 2283) (by decide +kernel), List.mem_of_getElem? (i := 3216) (by decide +kernel), List.mem_of_getElem? (i := 3217) (by decide +kernel)⟩
theorem lw_p250 : lw_okq (⟨"OptimaWorksModel", "add", "(IIII)V"⟩, 163) := ⟨⟨by decide +kernel, by decide +kernel⟩, List.mem_of_getElem? (i := 2283) (by decide +kernel), List.mem_of_getElem? (i := 3220) (by decide +kernel), List.mem_of_getElem? (i := 3221) (by decide +kernel)⟩
theorem lw_p251 : lw_okq (⟨"OptimaWorksModel", "raise", "(I)Z"⟩, 163) := ⟨⟨by decide +kernel, by decide +kernel⟩, List.mem_of_getElem? (i := 2283) (by decide +kernel), List.mem_of_getElem? (i := 3224) (by decide +kernel), List.mem_of_getElem? (i := 3225) (by decide +kernel)⟩
theorem lw_p252 : lw_okq (⟨"OptimaWorksModel", "signAt", "(II)I"⟩, 163) := ⟨⟨by decide +kernel, by decide +kernel⟩, List.mem_of_getElem? (i := 2283) (by decide +kernel), List.mem_of_getElem? (i := 3228) (by decide +kernel), List.mem_of_getElem? (i := 3229) (by decide +kernel)⟩
theorem lw_p253 : lw_okq (⟨"OptimaWorksModel", "leaving", "(I)I"⟩, 163) := ⟨⟨by decide +kernel, by decide +kernel⟩, List.mem_of_getElem? (i := 2283) (by decide +kernel), List.mem_of_getElem? (i := 3232) (by decide +kernel), List.mem_of_getElem? (i := 3233) (by decide +kernel)⟩
theorem lw_p254 : lw_okq (⟨"OptimaWorksModel", "lies", "(III)I"⟩, 163) := ⟨⟨by decide +kernel, by decide +kernel⟩, List.mem_of_getElem? (i := 2283) (by decide +kernel), List.mem_of_getElem? (i := 3236) (by decide +kernel), List.mem_of_getElem? (i := 3237) (by decide +kernel)⟩
theorem lw_p255 : lw_okq (⟨"OptimaWorksModel", "tryIt", "()V"⟩, 163) := ⟨⟨by decide +kernel, by decide +kernel⟩, List.mem_of_getElem? (i := 2283) (by decide +kernel), List.mem_of_getElem? (i := 3240) (by decide +kernel), List.mem_of_getElem? (i := 3241) (by decide +kernel)⟩
def lw_privs_16 : List (MethodName × Nat) := [(⟨"OptimaWorksModel", "goalNumber", "(II)V"⟩, 163), (⟨"OptimaWorksModel", "canKeep", "()Z"⟩, 163), (⟨"OptimaWorksModel", "compare", "(II)I"⟩, 163), (⟨"OptimaWorksModel", "hasten", "()V"⟩, 163), (⟨"OptimaWorksModel", "worth", "(I)J"⟩, 163), (⟨"OptimaWorksModel", "pivot", "(II)V"⟩, 163), (⟨"OptimaWorksModel", "pivotsQuick", "(II)Z"⟩, 163), (⟨"OptimaWorksModel", "place1", "(II)I"⟩, 163), (⟨"OptimaWorksModel", "exchange", "(II)V"⟩, 163), (⟨"OptimaWorksModel", "spill", "()V"⟩, 163), (⟨"OptimaWorksModel", "add", "(IIII)V"⟩, 163), (⟨"OptimaWorksModel", "raise", "(I)Z"⟩, 163), (⟨"OptimaWorksModel", "signAt", "(II)I"⟩, 163), (⟨"OptimaWorksModel", "leaving", "(I)I"⟩, 163), (⟨"OptimaWorksModel", "lies", "(III)I"⟩, 163), (⟨"OptimaWorksModel", "tryIt", "()V"⟩, 163)]
theorem lw_r16 : ∀ q ∈ lw_privs_16, lw_okq q := List.forall_mem_cons.mpr ⟨lw_p240, List.forall_mem_cons.mpr ⟨lw_p241, List.forall_mem_cons.mpr ⟨lw_p242, List.forall_mem_cons.mpr ⟨lw_p243, List.forall_mem_cons.mpr ⟨lw_p244, List.forall_mem_cons.mpr ⟨lw_p245, List.forall_mem_cons.mpr ⟨lw_p246, List.forall_mem_cons.mpr ⟨lw_p247, List.forall_mem_cons.mpr ⟨lw_p248, List.forall_mem_cons.mpr ⟨lw_p249, List.forall_mem_cons.mpr ⟨lw_p250, List.forall_mem_cons.mpr ⟨lw_p251, List.forall_mem_cons.mpr ⟨lw_p252, List.forall_mem_cons.mpr ⟨lw_p253, List.forall_mem_cons.mpr ⟨lw_p254, List.forall_mem_cons.mpr ⟨lw_p255, fun _ h => absurd h List.not_mem_nil⟩⟩⟩⟩⟩⟩⟩⟩⟩⟩⟩⟩⟩⟩⟩⟩
theorem lw_p256 : lw_okq (⟨"OptimaWorksModel", "thing", "(II)V"⟩, 163) := ⟨⟨by decide +kernel, by decide +kernel⟩, List.mem_of_getElem? (i := 2283) (by decide +kernel), List.mem_of_getElem? (i := 3244) (by decide +kernel), List.mem_of_getElem? (i := 3245) (by decide +kernel)⟩
theorem lw_p257 : lw_okq (⟨"OptimaWorksModel", "goalOf", "(II)V"⟩, 163) := ⟨⟨by decide +kernel, by decide +kernel⟩, List.mem_of_getElem? (i := 2283) (by decide +kernel), List.mem_of_getElem? (i := 3248) (by decide +kernel), List.mem_of_getElem? (i := 3249) (by decide +kernel)⟩
theorem lw_p258 : lw_okq (⟨"OptimaWorksModel", "take", "()V"⟩, 163) := ⟨⟨by decide +kernel, by decide +kernel⟩, List.mem_of_getElem? (i := 2283) (by decide +kernel), List.mem_of_getElem? (i := 3252) (by decide +kernel), List.mem_of_getElem? (i := 3253) (by decide +kernel)⟩
theorem lw_p259 : lw_okq (⟨"OptimaWorksModel", "firstValues", "()V"⟩, 163) := ⟨⟨by decide +kernel, by decide +kernel⟩, List.mem_of_getElem? (i := 2283) (by decide +kernel), List.mem_of_getElem? (i := 3256) (by decide +kernel), List.mem_of_getElem? (i := 3257) (by decide +kernel)⟩
theorem lw_p260 : lw_okq (⟨"OptimaWorksModel", "firstWays", "()V"⟩, 163) := ⟨⟨by decide +kernel, by decide +kernel⟩, List.mem_of_getElem? (i := 2283) (by decide +kernel), List.mem_of_getElem? (i := 3260) (by decide +kernel), List.mem_of_getElem? (i := 3261) (by decide +kernel)⟩
theorem lw_p261 : lw_okq (⟨"OptimaWorksModel", "differ", "()Z"⟩, 163) := ⟨⟨by decide +kernel, by decide +kernel⟩, List.mem_of_getElem? (i := 2283) (by decide +kernel), List.mem_of_getElem? (i := 3264) (by decide +kernel), List.mem_of_getElem? (i := 3265) (by decide +kernel)⟩
theorem lw_p262 : lw_okq (⟨"OptimaWorksModel", "isBetter", "()Z"⟩, 163) := ⟨⟨by decide +kernel, by decide +kernel⟩, List.mem_of_getElem? (i := 2283) (by decide +kernel), List.mem_of_getElem? (i := 3268) (by decide +kernel), List.mem_of_getElem? (i := 3269) (by decide +kernel)⟩
theorem lw_p263 : lw_okq (⟨"OptimaWorksModel", "against", "(IIII)I"⟩, 163) := ⟨⟨by decide +kernel, by decide +kernel⟩, List.mem_of_getElem? (i := 2283) (by decide +kernel), List.mem_of_getElem? (i := 3272) (by decide +kernel), List.mem_of_getElem? (i := 3273) (by decide +kernel)⟩
theorem lw_p264 : lw_okq (⟨"OptimaWorksModel", "nextWays", "()Z"⟩, 163) := ⟨⟨by decide +kernel, by decide +kernel⟩, List.mem_of_getElem? (i := 2283) (by decide +kernel), List.mem_of_getElem? (i := 3276) (by decide +kernel), List.mem_of_getElem? (i := 3277) (by decide +kernel)⟩
theorem lw_p265 : lw_okq (⟨"OptimaWorksModel", "nextValues", "()Z"⟩, 163) := ⟨⟨by decide +kernel, by decide +kernel⟩, List.mem_of_getElem? (i := 2283) (by decide +kernel), List.mem_of_getElem? (i := 3280) (by decide +kernel), List.mem_of_getElem? (i := 3281) (by decide +kernel)⟩
theorem lw_p266 : lw_okq (⟨"OptimaWorksModel", "counts", "()Z"⟩, 163) := ⟨⟨by decide +kernel, by decide +kernel⟩, List.mem_of_getElem? (i := 2283) (by decide +kernel), List.mem_of_getElem? (i := 3288) (by decide +kernel), List.mem_of_getElem? (i := 3289) (by decide +kernel)⟩
theorem lw_p267 : lw_okq (⟨"OptimaWorksModel", "listNeeds", "()V"⟩, 163) := ⟨⟨by decide +kernel, by decide +kernel⟩, List.mem_of_getElem? (i := 2283) (by decide +kernel), List.mem_of_getElem? (i := 3300) (by decide +kernel), List.mem_of_getElem? (i := 3301) (by decide +kernel)⟩
theorem lw_p268 : lw_okq (⟨"OptimaWorksModel", "need1", "(II)V"⟩, 163) := ⟨⟨by decide +kernel, by decide +kernel⟩, List.mem_of_getElem? (i := 2283) (by decide +kernel), List.mem_of_getElem? (i := 3304) (by decide +kernel), List.mem_of_getElem? (i := 3305) (by decide +kernel)⟩
theorem lw_p269 : lw_okq (⟨"OptimaWorksModel", "best1", "()V"⟩, 163) := ⟨⟨by decide +kernel, by decide +kernel⟩, List.mem_of_getElem? (i := 2283) (by decide +kernel), List.mem_of_getElem? (i := 3308) (by decide +kernel), List.mem_of_getElem? (i := 3309) (by decide +kernel)⟩
theorem lw_p270 : lw_okq (⟨"OptimaWorksModel", "shorten", "(II)V"⟩, 163) := ⟨⟨by decide +kernel, by decide +kernel⟩, List.mem_of_getElem? (i := 2283) (by decide +kernel), List.mem_of_getElem? (i := 3312) (by decide +kernel), List.mem_of_getElem? (i := 3313) (by decide +kernel)⟩
theorem lw_p271 : lw_okq (⟨"OptimaWorksModel", "shortBest", "()V"⟩, 163) := ⟨⟨by decide +kernel, by decide +kernel⟩, List.mem_of_getElem? (i := 2283) (by decide +kernel), List.mem_of_getElem? (i := 3316) (by decide +kernel), List.mem_of_getElem? (i := 3317) (by decide +kernel)⟩
def lw_privs_17 : List (MethodName × Nat) := [(⟨"OptimaWorksModel", "thing", "(II)V"⟩, 163), (⟨"OptimaWorksModel", "goalOf", "(II)V"⟩, 163), (⟨"OptimaWorksModel", "take", "()V"⟩, 163), (⟨"OptimaWorksModel", "firstValues", "()V"⟩, 163), (⟨"OptimaWorksModel", "firstWays", "()V"⟩, 163), (⟨"OptimaWorksModel", "differ", "()Z"⟩, 163), (⟨"OptimaWorksModel", "isBetter", "()Z"⟩, 163), (⟨"OptimaWorksModel", "against", "(IIII)I"⟩, 163), (⟨"OptimaWorksModel", "nextWays", "()Z"⟩, 163), (⟨"OptimaWorksModel", "nextValues", "()Z"⟩, 163), (⟨"OptimaWorksModel", "counts", "()Z"⟩, 163), (⟨"OptimaWorksModel", "listNeeds", "()V"⟩, 163), (⟨"OptimaWorksModel", "need1", "(II)V"⟩, 163), (⟨"OptimaWorksModel", "best1", "()V"⟩, 163), (⟨"OptimaWorksModel", "shorten", "(II)V"⟩, 163), (⟨"OptimaWorksModel", "shortBest", "()V"⟩, 163)]
theorem lw_r17 : ∀ q ∈ lw_privs_17, lw_okq q := List.forall_mem_cons.mpr ⟨lw_p256, List.forall_mem_cons.mpr ⟨lw_p257, List.forall_mem_cons.mpr ⟨lw_p258, List.forall_mem_cons.mpr ⟨lw_p259, List.forall_mem_cons.mpr ⟨lw_p260, List.forall_mem_cons.mpr ⟨lw_p261, List.forall_mem_cons.mpr ⟨lw_p262, List.forall_mem_cons.mpr ⟨lw_p263, List.forall_mem_cons.mpr ⟨lw_p264, List.forall_mem_cons.mpr ⟨lw_p265, List.forall_mem_cons.mpr ⟨lw_p266, List.forall_mem_cons.mpr ⟨lw_p267, List.forall_mem_cons.mpr ⟨lw_p268, List.forall_mem_cons.mpr ⟨lw_p269, List.forall_mem_cons.mpr ⟨lw_p270, List.forall_mem_cons.mpr ⟨lw_p271, fun _ h => absurd h List.not_mem_nil⟩⟩⟩⟩⟩⟩⟩⟩⟩⟩⟩⟩⟩⟩⟩⟩
theorem lw_p272 : lw_okq (⟨"OptimaWorksModel", "addsUp", "()Z"⟩, 163) := ⟨⟨by decide +kernel, by decide +kernel⟩, List.mem_of_getElem? (i := 2283) (by decide +kernel), List.mem_of_getElem? (i := 3320) (by decide +kernel), List.mem_of_getElem? (i := 3321) (by decide +kernel)⟩
theorem lw_p273 : lw_okq (⟨"OptimaWorksModel", "isEqual", "(I)Z"⟩, 163) := ⟨⟨by decide +kernel, by decide +kernel⟩, List.mem_of_getElem? (i := 2283) (by decide +kernel), List.mem_of_getElem? (i := 3324) (by decide +kernel), List.mem_of_getElem? (i := 3325) (by decide +kernel)⟩
theorem lw_p274 : lw_okq (⟨"OptimaWorksModel", "needNumber", "(II)I"⟩, 163) := ⟨⟨by decide +kernel, by decide +kernel⟩, List.mem_of_getElem? (i := 2283) (by decide +kernel), List.mem_of_getElem? (i := 3328) (by decide +kernel), List.mem_of_getElem? (i := 3329) (by decide +kernel)⟩
theorem lw_p275 : lw_okq (⟨"OptimaWorksModel", "spread", "(IIII)V"⟩, 163) := ⟨⟨by decide +kernel, by decide +kernel⟩, List.mem_of_getElem? (i := 2283) (by decide +kernel), List.mem_of_getElem? (i := 3332) (by decide +kernel), List.mem_of_getElem? (i := 3333) (by decide +kernel)⟩
theorem lw_p276 : lw_okq (⟨"OptimaWorksModel", "proves", "()Z"⟩, 163) := ⟨⟨by decide +kernel, by decide +kernel⟩, List.mem_of_getElem? (i := 2283) (by decide +kernel), List.mem_of_getElem? (i := 3336) (by decide +kernel), List.mem_of_getElem? (i := 3337) (by decide +kernel)⟩
theorem lw_p277 : lw_okq (⟨"OptimaWorksModel", "multipliers", "()V"⟩, 163) := ⟨⟨by decide +kernel, by decide +kernel⟩, List.mem_of_getElem? (i := 2283) (by decide +kernel), List.mem_of_getElem? (i := 3340) (by decide +kernel), List.mem_of_getElem? (i := 3341) (by decide +kernel)⟩
theorem lw_p278 : lw_okq (⟨"OptimaWorksModel", "canTell", "(II)Z"⟩, 163) := ⟨⟨by decide +kernel, by decide +kernel⟩, List.mem_of_getElem? (i := 2283) (by decide +kernel), List.mem_of_getElem? (i := 3352) (by decide +kernel), List.mem_of_getElem? (i := 3353) (by decide +kernel)⟩
theorem lw_p279 : lw_okq (⟨"OptimaWorksModel", "sayFraction", "(II)V"⟩, 163) := ⟨⟨by decide +kernel, by decide +kernel⟩, List.mem_of_getElem? (i := 2283) (by decide +kernel), List.mem_of_getElem? (i := 3356) (by decide +kernel), List.mem_of_getElem? (i := 3357) (by decide +kernel)⟩
theorem lw_p280 : lw_okq (⟨"OptimaWorksModel", "say", "(I)V"⟩, 163) := ⟨⟨by decide +kernel, by decide +kernel⟩, List.mem_of_getElem? (i := 2283) (by decide +kernel), List.mem_of_getElem? (i := 3360) (by decide +kernel), List.mem_of_getElem? (i := 3361) (by decide +kernel)⟩
theorem lw_p281 : lw_okq (⟨"OptimaWorksModel", "sayBig", "(I)V"⟩, 163) := ⟨⟨by decide +kernel, by decide +kernel⟩, List.mem_of_getElem? (i := 2283) (by decide +kernel), List.mem_of_getElem? (i := 3364) (by decide +kernel), List.mem_of_getElem? (i := 3365) (by decide +kernel)⟩
theorem lw_p282 : lw_okq (⟨"OptimaWorksModel", "sayText", "(II)V"⟩, 163) := ⟨⟨by decide +kernel, by decide +kernel⟩, List.mem_of_getElem? (i := 2283) (by decide +kernel), List.mem_of_getElem? (i := 3385) (by decide +kernel), List.mem_of_getElem? (i := 3386) (by decide +kernel)⟩
theorem lw_p283 : lw_okq (⟨"OptimaWorksModel", "sayNumber", "(I)V"⟩, 163) := ⟨⟨by decide +kernel, by decide +kernel⟩, List.mem_of_getElem? (i := 2283) (by decide +kernel), List.mem_of_getElem? (i := 3393) (by decide +kernel), List.mem_of_getElem? (i := 3394) (by decide +kernel)⟩
theorem lw_p284 : lw_okq (⟨"OptimaWorksModel", "endLine", "()V"⟩, 163) := ⟨⟨by decide +kernel, by decide +kernel⟩, List.mem_of_getElem? (i := 2283) (by decide +kernel), List.mem_of_getElem? (i := 3397) (by decide +kernel), List.mem_of_getElem? (i := 3398) (by decide +kernel)⟩
theorem lw_p285 : lw_okq (⟨"OptimaWorksModel", "sayWay", "(I)V"⟩, 163) := ⟨⟨by decide +kernel, by decide +kernel⟩, List.mem_of_getElem? (i := 2283) (by decide +kernel), List.mem_of_getElem? (i := 3401) (by decide +kernel), List.mem_of_getElem? (i := 3402) (by decide +kernel)⟩
theorem lw_p286 : lw_okq (⟨"OptimaWorksModel", "sayTerm", "(IIIZ)V"⟩, 163) := ⟨⟨by decide +kernel, by decide +kernel⟩, List.mem_of_getElem? (i := 2283) (by decide +kernel), List.mem_of_getElem? (i := 3405) (by decide +kernel), List.mem_of_getElem? (i := 3406) (by decide +kernel)⟩
theorem lw_p287 : lw_okq (⟨"OptimaWorksModel", "sayPart", "(II)V"⟩, 163) := ⟨⟨by decide +kernel, by decide +kernel⟩, List.mem_of_getElem? (i := 2283) (by decide +kernel), List.mem_of_getElem? (i := 3409) (by decide +kernel), List.mem_of_getElem? (i := 3410) (by decide +kernel)⟩
def lw_privs_18 : List (MethodName × Nat) := [(⟨"OptimaWorksModel", "addsUp", "()Z"⟩, 163), (⟨"OptimaWorksModel", "isEqual", "(I)Z"⟩, 163), (⟨"OptimaWorksModel", "needNumber", "(II)I"⟩, 163), (⟨"OptimaWorksModel", "spread", "(IIII)V"⟩, 163), (⟨"OptimaWorksModel", "proves", "()Z"⟩, 163), (⟨"OptimaWorksModel", "multipliers", "()V"⟩, 163), (⟨"OptimaWorksModel", "canTell", "(II)Z"⟩, 163), (⟨"OptimaWorksModel", "sayFraction", "(II)V"⟩, 163), (⟨"OptimaWorksModel", "say", "(I)V"⟩, 163), (⟨"OptimaWorksModel", "sayBig", "(I)V"⟩, 163), (⟨"OptimaWorksModel", "sayText", "(II)V"⟩, 163), (⟨"OptimaWorksModel", "sayNumber", "(I)V"⟩, 163), (⟨"OptimaWorksModel", "endLine", "()V"⟩, 163), (⟨"OptimaWorksModel", "sayWay", "(I)V"⟩, 163), (⟨"OptimaWorksModel", "sayTerm", "(IIIZ)V"⟩, 163), (⟨"OptimaWorksModel", "sayPart", "(II)V"⟩, 163)]
theorem lw_r18 : ∀ q ∈ lw_privs_18, lw_okq q := List.forall_mem_cons.mpr ⟨lw_p272, List.forall_mem_cons.mpr ⟨lw_p273, List.forall_mem_cons.mpr ⟨lw_p274, List.forall_mem_cons.mpr ⟨lw_p275, List.forall_mem_cons.mpr ⟨lw_p276, List.forall_mem_cons.mpr ⟨lw_p277, List.forall_mem_cons.mpr ⟨lw_p278, List.forall_mem_cons.mpr ⟨lw_p279, List.forall_mem_cons.mpr ⟨lw_p280, List.forall_mem_cons.mpr ⟨lw_p281, List.forall_mem_cons.mpr ⟨lw_p282, List.forall_mem_cons.mpr ⟨lw_p283, List.forall_mem_cons.mpr ⟨lw_p284, List.forall_mem_cons.mpr ⟨lw_p285, List.forall_mem_cons.mpr ⟨lw_p286, List.forall_mem_cons.mpr ⟨lw_p287, fun _ h => absurd h List.not_mem_nil⟩⟩⟩⟩⟩⟩⟩⟩⟩⟩⟩⟩⟩⟩⟩⟩
theorem lw_p288 : lw_okq (⟨"OptimaWorksModel", "sayGoal", "(I)V"⟩, 163) := ⟨⟨by decide +kernel, by decide +kernel⟩, List.mem_of_getElem? (i := 2283) (by decide +kernel), List.mem_of_getElem? (i := 3413) (by decide +kernel), List.mem_of_getElem? (i := 3414) (by decide +kernel)⟩
theorem lw_p289 : lw_okq (⟨"OptimaWorksModel", "isRule", "(IIII)Z"⟩, 163) := ⟨⟨by decide +kernel, by decide +kernel⟩, List.mem_of_getElem? (i := 2283) (by decide +kernel), List.mem_of_getElem? (i := 3462) (by decide +kernel), List.mem_of_getElem? (i := 3463) (by decide +kernel)⟩
theorem lw_p290 : lw_okq (⟨"OptimaWorksModel", "isSet", "(I)Z"⟩, 163) := ⟨⟨by decide +kernel, by decide +kernel⟩, List.mem_of_getElem? (i := 2283) (by decide +kernel), List.mem_of_getElem? (i := 3466) (by decide +kernel), List.mem_of_getElem? (i := 3467) (by decide +kernel)⟩
theorem lw_p291 : lw_okq (⟨"OptimaWorksModel", "isHolder", "(I)Z"⟩, 163) := ⟨⟨by decide +kernel, by decide +kernel⟩, List.mem_of_getElem? (i := 2283) (by decide +kernel), List.mem_of_getElem? (i := 3470) (by decide +kernel), List.mem_of_getElem? (i := 3471) (by decide +kernel)⟩
theorem lw_p292 : lw_okq (⟨"OptimaWorksModel", "leaveAll", "()V"⟩, 163) := ⟨⟨by decide +kernel, by decide +kernel⟩, List.mem_of_getElem? (i := 2283) (by decide +kernel), List.mem_of_getElem? (i := 3487) (by decide +kernel), List.mem_of_getElem? (i := 3488) (by decide +kernel)⟩
theorem lw_p293 : lw_okq (⟨"OptimaWorksModel", "leave", "()V"⟩, 163) := ⟨⟨by decide +kernel, by decide +kernel⟩, List.mem_of_getElem? (i := 2283) (by decide +kernel), List.mem_of_getElem? (i := 3491) (by decide +kernel), List.mem_of_getElem? (i := 3492) (by decide +kernel)⟩
theorem lw_p294 : lw_okq (⟨"OptimaWorksModel", "scope", "(I)I"⟩, 163) := ⟨⟨by decide +kernel, by decide +kernel⟩, List.mem_of_getElem? (i := 2283) (by decide +kernel), List.mem_of_getElem? (i := 3495) (by decide +kernel), List.mem_of_getElem? (i := 3496) (by decide +kernel)⟩
theorem lw_p295 : lw_okq (⟨"OptimaWorksModel", "supports", "(III)Z"⟩, 163) := ⟨⟨by decide +kernel, by decide +kernel⟩, List.mem_of_getElem? (i := 2283) (by decide +kernel), List.mem_of_getElem? (i := 3499) (by decide +kernel), List.mem_of_getElem? (i := 3500) (by decide +kernel)⟩
theorem lw_p296 : lw_okq (⟨"OptimaWorksModel", "canHold", "(I)Z"⟩, 163) := ⟨⟨by decide +kernel, by decide +kernel⟩, List.mem_of_getElem? (i := 2283) (by decide +kernel), List.mem_of_getElem? (i := 3503) (by decide +kernel), List.mem_of_getElem? (i := 3504) (by decide +kernel)⟩
theorem lw_p297 : lw_okq (⟨"OptimaWorksModel", "canDiffer", "(I)Z"⟩, 163) := ⟨⟨by decide +kernel, by decide +kernel⟩, List.mem_of_getElem? (i := 2283) (by decide +kernel), List.mem_of_getElem? (i := 3507) (by decide +kernel), List.mem_of_getElem? (i := 3508) (by decide +kernel)⟩
theorem lw_p298 : lw_okq (⟨"OptimaWorksModel", "finds", "(I)Z"⟩, 163) := ⟨⟨by decide +kernel, by decide +kernel⟩, List.mem_of_getElem? (i := 2283) (by decide +kernel), List.mem_of_getElem? (i := 3511) (by decide +kernel), List.mem_of_getElem? (i := 3512) (by decide +kernel)⟩
theorem lw_p299 : lw_okq (⟨"OptimaWorksModel", "move", "(II)V"⟩, 163) := ⟨⟨by decide +kernel, by decide +kernel⟩, List.mem_of_getElem? (i := 2283) (by decide +kernel), List.mem_of_getElem? (i := 3515) (by decide +kernel), List.mem_of_getElem? (i := 3516) (by decide +kernel)⟩
theorem lw_p300 : lw_okq (⟨"OptimaWorksModel", "canOrder", "(III)Z"⟩, 163) := ⟨⟨by decide +kernel, by decide +kernel⟩, List.mem_of_getElem? (i := 2283) (by decide +kernel), List.mem_of_getElem? (i := 3519) (by decide +kernel), List.mem_of_getElem? (i := 3520) (by decide +kernel)⟩
theorem lw_p301 : lw_okq (⟨"OptimaWorksModel", "canSum", "(III)Z"⟩, 163) := ⟨⟨by decide +kernel, by decide +kernel⟩, List.mem_of_getElem? (i := 2283) (by decide +kernel), List.mem_of_getElem? (i := 3523) (by decide +kernel), List.mem_of_getElem? (i := 3524) (by decide +kernel)⟩
theorem lw_p302 : lw_okq (⟨"OptimaWorksModel", "must", "(II)I"⟩, 163) := ⟨⟨by decide +kernel, by decide +kernel⟩, List.mem_of_getElem? (i := 2283) (by decide +kernel), List.mem_of_getElem? (i := 3527) (by decide +kernel), List.mem_of_getElem? (i := 3528) (by decide +kernel)⟩
theorem lw_p303 : lw_okq (⟨"OptimaWorksModel", "canPair", "(I)Z"⟩, 163) := ⟨⟨by decide +kernel, by decide +kernel⟩, List.mem_of_getElem? (i := 2283) (by decide +kernel), List.mem_of_getElem? (i := 3531) (by decide +kernel), List.mem_of_getElem? (i := 3532) (by decide +kernel)⟩
def lw_privs_19 : List (MethodName × Nat) := [(⟨"OptimaWorksModel", "sayGoal", "(I)V"⟩, 163), (⟨"OptimaWorksModel", "isRule", "(IIII)Z"⟩, 163), (⟨"OptimaWorksModel", "isSet", "(I)Z"⟩, 163), (⟨"OptimaWorksModel", "isHolder", "(I)Z"⟩, 163), (⟨"OptimaWorksModel", "leaveAll", "()V"⟩, 163), (⟨"OptimaWorksModel", "leave", "()V"⟩, 163), (⟨"OptimaWorksModel", "scope", "(I)I"⟩, 163), (⟨"OptimaWorksModel", "supports", "(III)Z"⟩, 163), (⟨"OptimaWorksModel", "canHold", "(I)Z"⟩, 163), (⟨"OptimaWorksModel", "canDiffer", "(I)Z"⟩, 163), (⟨"OptimaWorksModel", "finds", "(I)Z"⟩, 163), (⟨"OptimaWorksModel", "move", "(II)V"⟩, 163), (⟨"OptimaWorksModel", "canOrder", "(III)Z"⟩, 163), (⟨"OptimaWorksModel", "canSum", "(III)Z"⟩, 163), (⟨"OptimaWorksModel", "must", "(II)I"⟩, 163), (⟨"OptimaWorksModel", "canPair", "(I)Z"⟩, 163)]
theorem lw_r19 : ∀ q ∈ lw_privs_19, lw_okq q := List.forall_mem_cons.mpr ⟨lw_p288, List.forall_mem_cons.mpr ⟨lw_p289, List.forall_mem_cons.mpr ⟨lw_p290, List.forall_mem_cons.mpr ⟨lw_p291, List.forall_mem_cons.mpr ⟨lw_p292, List.forall_mem_cons.mpr ⟨lw_p293, List.forall_mem_cons.mpr ⟨lw_p294, List.forall_mem_cons.mpr ⟨lw_p295, List.forall_mem_cons.mpr ⟨lw_p296, List.forall_mem_cons.mpr ⟨lw_p297, List.forall_mem_cons.mpr ⟨lw_p298, List.forall_mem_cons.mpr ⟨lw_p299, List.forall_mem_cons.mpr ⟨lw_p300, List.forall_mem_cons.mpr ⟨lw_p301, List.forall_mem_cons.mpr ⟨lw_p302, List.forall_mem_cons.mpr ⟨lw_p303, fun _ h => absurd h List.not_mem_nil⟩⟩⟩⟩⟩⟩⟩⟩⟩⟩⟩⟩⟩⟩⟩⟩
theorem lw_p304 : lw_okq (⟨"OptimaWorksModel", "list", "()I"⟩, 163) := ⟨⟨by decide +kernel, by decide +kernel⟩, List.mem_of_getElem? (i := 2283) (by decide +kernel), List.mem_of_getElem? (i := 3547) (by decide +kernel), List.mem_of_getElem? (i := 3548) (by decide +kernel)⟩
theorem lw_p305 : lw_okq (⟨"OptimaWorksModel", "above", "(I)I"⟩, 163) := ⟨⟨by decide +kernel, by decide +kernel⟩, List.mem_of_getElem? (i := 2283) (by decide +kernel), List.mem_of_getElem? (i := 3551) (by decide +kernel), List.mem_of_getElem? (i := 3552) (by decide +kernel)⟩
theorem lw_p306 : lw_okq (⟨"OptimaWorksModel", "keepsRule", "(I)Z"⟩, 163) := ⟨⟨by decide +kernel, by decide +kernel⟩, List.mem_of_getElem? (i := 2283) (by decide +kernel), List.mem_of_getElem? (i := 3555) (by decide +kernel), List.mem_of_getElem? (i := 3556) (by decide +kernel)⟩
theorem lw_p307 : lw_okq (⟨"OptimaWorksModel", "models", "(I)I"⟩, 163) := ⟨⟨by decide +kernel, by decide +kernel⟩, List.mem_of_getElem? (i := 2283) (by decide +kernel), List.mem_of_getElem? (i := 3576) (by decide +kernel), List.mem_of_getElem? (i := 3577) (by decide +kernel)⟩
theorem lw_p308 : lw_okq (⟨"OptimaWorksModel", "keeps", "(II)Z"⟩, 163) := ⟨⟨by decide +kernel, by decide +kernel⟩, List.mem_of_getElem? (i := 2283) (by decide +kernel), List.mem_of_getElem? (i := 3580) (by decide +kernel), List.mem_of_getElem? (i := 3581) (by decide +kernel)⟩
theorem lw_p309 : lw_okq (⟨"OptimaWorksModel", "core", "()I"⟩, 163) := ⟨⟨by decide +kernel, by decide +kernel⟩, List.mem_of_getElem? (i := 2283) (by decide +kernel), List.mem_of_getElem? (i := 3584) (by decide +kernel), List.mem_of_getElem? (i := 3585) (by decide +kernel)⟩
theorem lw_p310 : lw_okq (⟨"OptimaWorksModel", "cost", "(I)I"⟩, 163) := ⟨⟨by decide +kernel, by decide +kernel⟩, List.mem_of_getElem? (i := 2283) (by decide +kernel), List.mem_of_getElem? (i := 3588) (by decide +kernel), List.mem_of_getElem? (i := 3589) (by decide +kernel)⟩
theorem lw_p311 : lw_okq (⟨"OptimaWorksModel", "areEnds", "(II)Z"⟩, 163) := ⟨⟨by decide +kernel, by decide +kernel⟩, List.mem_of_getElem? (i := 2283) (by decide +kernel), List.mem_of_getElem? (i := 3607) (by decide +kernel), List.mem_of_getElem? (i := 3608) (by decide +kernel)⟩
theorem lw_p312 : lw_okq (⟨"OptimaWorksModel", "send", "(III)I"⟩, 163) := ⟨⟨by decide +kernel, by decide +kernel⟩, List.mem_of_getElem? (i := 2283) (by decide +kernel), List.mem_of_getElem? (i := 3612) (by decide +kernel), List.mem_of_getElem? (i := 3613) (by decide +kernel)⟩
theorem lw_p313 : lw_okq (⟨"OptimaWorksModel", "relax", "(IIII)Z"⟩, 163) := ⟨⟨by decide +kernel, by decide +kernel⟩, List.mem_of_getElem? (i := 2283) (by decide +kernel), List.mem_of_getElem? (i := 3617) (by decide +kernel), List.mem_of_getElem? (i := 3618) (by decide +kernel)⟩
theorem lw_p314 : lw_okq (⟨"OptimaWorksModel", "push", "(III)I"⟩, 163) := ⟨⟨by decide +kernel, by decide +kernel⟩, List.mem_of_getElem? (i := 2283) (by decide +kernel), List.mem_of_getElem? (i := 3621) (by decide +kernel), List.mem_of_getElem? (i := 3622) (by decide +kernel)⟩
theorem lw_p315 : lw_okq (⟨"OptimaWorksModel", "follows", "(I)I"⟩, 163) := ⟨⟨by decide +kernel, by decide +kernel⟩, List.mem_of_getElem? (i := 2283) (by decide +kernel), List.mem_of_getElem? (i := 3637) (by decide +kernel), List.mem_of_getElem? (i := 3638) (by decide +kernel)⟩
theorem lw_p316 : lw_okq (⟨"OptimaWorksModel", "tourCost", "(I)I"⟩, 163) := ⟨⟨by decide +kernel, by decide +kernel⟩, List.mem_of_getElem? (i := 2283) (by decide +kernel), List.mem_of_getElem? (i := 3649) (by decide +kernel), List.mem_of_getElem? (i := 3650) (by decide +kernel)⟩
theorem lw_p317 : lw_okq (⟨"OptimaWorksModel", "link", "(II)I"⟩, 163) := ⟨⟨by decide +kernel, by decide +kernel⟩, List.mem_of_getElem? (i := 2283) (by decide +kernel), List.mem_of_getElem? (i := 3653) (by decide +kernel), List.mem_of_getElem? (i := 3654) (by decide +kernel)⟩
theorem lw_p318 : lw_okq (⟨"OptimaWorksModel", "nextOrder", "(I)Z"⟩, 163) := ⟨⟨by decide +kernel, by decide +kernel⟩, List.mem_of_getElem? (i := 2283) (by decide +kernel), List.mem_of_getElem? (i := 3657) (by decide +kernel), List.mem_of_getElem? (i := 3658) (by decide +kernel)⟩
def lw_privs_20 : List (MethodName × Nat) := [(⟨"OptimaWorksModel", "list", "()I"⟩, 163), (⟨"OptimaWorksModel", "above", "(I)I"⟩, 163), (⟨"OptimaWorksModel", "keepsRule", "(I)Z"⟩, 163), (⟨"OptimaWorksModel", "models", "(I)I"⟩, 163), (⟨"OptimaWorksModel", "keeps", "(II)Z"⟩, 163), (⟨"OptimaWorksModel", "core", "()I"⟩, 163), (⟨"OptimaWorksModel", "cost", "(I)I"⟩, 163), (⟨"OptimaWorksModel", "areEnds", "(II)Z"⟩, 163), (⟨"OptimaWorksModel", "send", "(III)I"⟩, 163), (⟨"OptimaWorksModel", "relax", "(IIII)Z"⟩, 163), (⟨"OptimaWorksModel", "push", "(III)I"⟩, 163), (⟨"OptimaWorksModel", "follows", "(I)I"⟩, 163), (⟨"OptimaWorksModel", "tourCost", "(I)I"⟩, 163), (⟨"OptimaWorksModel", "link", "(II)I"⟩, 163), (⟨"OptimaWorksModel", "nextOrder", "(I)Z"⟩, 163)]
theorem lw_r20 : ∀ q ∈ lw_privs_20, lw_okq q := List.forall_mem_cons.mpr ⟨lw_p304, List.forall_mem_cons.mpr ⟨lw_p305, List.forall_mem_cons.mpr ⟨lw_p306, List.forall_mem_cons.mpr ⟨lw_p307, List.forall_mem_cons.mpr ⟨lw_p308, List.forall_mem_cons.mpr ⟨lw_p309, List.forall_mem_cons.mpr ⟨lw_p310, List.forall_mem_cons.mpr ⟨lw_p311, List.forall_mem_cons.mpr ⟨lw_p312, List.forall_mem_cons.mpr ⟨lw_p313, List.forall_mem_cons.mpr ⟨lw_p314, List.forall_mem_cons.mpr ⟨lw_p315, List.forall_mem_cons.mpr ⟨lw_p316, List.forall_mem_cons.mpr ⟨lw_p317, List.forall_mem_cons.mpr ⟨lw_p318, fun _ h => absurd h List.not_mem_nil⟩⟩⟩⟩⟩⟩⟩⟩⟩⟩⟩⟩⟩⟩⟩
def lw_privs : List (MethodName × Nat) := lw_privs_1 ++ (lw_privs_2 ++ (lw_privs_3 ++ (lw_privs_4 ++ (lw_privs_5 ++ (lw_privs_6 ++ (lw_privs_7 ++ (lw_privs_8 ++ (lw_privs_9 ++ (lw_privs_10 ++ (lw_privs_11 ++ (lw_privs_12 ++ (lw_privs_13 ++ (lw_privs_14 ++ (lw_privs_15 ++ (lw_privs_16 ++ (lw_privs_17 ++ (lw_privs_18 ++ (lw_privs_19 ++ (lw_privs_20)))))))))))))))))))
def lw_tbl : List Cond := k2_sels lw_privs ++ tables_1
theorem lw_privs_ok : ∀ q ∈ lw_privs, lw_okq q := by
  show ∀ q ∈ lw_privs_1 ++ (lw_privs_2 ++ (lw_privs_3 ++ (lw_privs_4 ++ (lw_privs_5 ++ (lw_privs_6 ++ (lw_privs_7 ++ (lw_privs_8 ++ (lw_privs_9 ++ (lw_privs_10 ++ (lw_privs_11 ++ (lw_privs_12 ++ (lw_privs_13 ++ (lw_privs_14 ++ (lw_privs_15 ++ (lw_privs_16 ++ (lw_privs_17 ++ (lw_privs_18 ++ (lw_privs_19 ++ (lw_privs_20))))))))))))))))))), lw_okq q
  exact List.forall_mem_append.mpr ⟨lw_r1, List.forall_mem_append.mpr ⟨lw_r2, List.forall_mem_append.mpr ⟨lw_r3, List.forall_mem_append.mpr ⟨lw_r4, List.forall_mem_append.mpr ⟨lw_r5, List.forall_mem_append.mpr ⟨lw_r6, List.forall_mem_append.mpr ⟨lw_r7, List.forall_mem_append.mpr ⟨lw_r8, List.forall_mem_append.mpr ⟨lw_r9, List.forall_mem_append.mpr ⟨lw_r10, List.forall_mem_append.mpr ⟨lw_r11, List.forall_mem_append.mpr ⟨lw_r12, List.forall_mem_append.mpr ⟨lw_r13, List.forall_mem_append.mpr ⟨lw_r14, List.forall_mem_append.mpr ⟨lw_r15, List.forall_mem_append.mpr ⟨lw_r16, List.forall_mem_append.mpr ⟨lw_r17, List.forall_mem_append.mpr ⟨lw_r18, List.forall_mem_append.mpr ⟨lw_r19, lw_r20⟩⟩⟩⟩⟩⟩⟩⟩⟩⟩⟩⟩⟩⟩⟩⟩⟩⟩⟩
end
section
/-! ===== BEGIN words of one list among another's, by their places ===== -/
theorem goodIn_r {big : List Cond} (ws : List Cond) (ps : List Nat) (hp : ws = ps.filterMap (fun i => big[i]?)) (h : ws.all goodWord = true) : GoodIn big ws := by
  intro w hw
  have h1 := List.all_eq_true.mp h w hw
  rw [hp] at hw
  obtain ⟨i, -, hi⟩ := List.mem_filterMap.mp hw
  have hm : w ∈ big := by first | exact List.mem_of_getElem? hi | exact List.getElem?_mem hi
  exact ⟨hm, good_of_word h1⟩
theorem goodIn_app {big a b : List Cond} (ha : GoodIn big a) (hb : GoodIn big b) : GoodIn big (a ++ b) := fun w h => (List.mem_append.mp h).elim (ha w) (hb w)
theorem goodIn_ca {big a b : List Cond} {c : Cond} (ha : GoodIn big (c :: a)) (hb : GoodIn big b) : GoodIn big (c :: (a ++ b)) := fun w h => (List.mem_cons.mp h).elim (fun e => ha w (List.mem_cons.mpr (Or.inl e))) (fun h => (List.mem_append.mp h).elim (fun h => ha w (List.mem_cons.mpr (Or.inr h))) (hb w))
theorem goodIn_sub {big ws : List Cond} (hm : ∀ w ∈ ws, w ∈ big) (h : ws.all goodWord = true) : GoodIn big ws := fun w hw => ⟨hm w hw, good_of_word (List.all_eq_true.mp h w hw)⟩
/-! ===== END ===== -/

/-! ===== BEGIN printed: names, fields, word lists, decode rows ===== -/
def RX0 : String := "OptimaWorks$ClauseDesk"
def TX0 : u_T := fun k => match k with
  | 0 => ("OptimaWorks$ClauseDesk", "clauses", "I", false)
  | 1 => ("OptimaWorks$ClauseDesk", "wants", "[I", true)
  | 2 => ("OptimaWorks$ClauseDesk", "wantsNot", "[I", true)
  | 3 => ("OptimaWorks$ClauseDesk", "weight", "[I", true)
  | 4 => ("OptimaWorks$ClauseDesk", "broken", "[I", true)
  | 5 => ("OptimaWorks$ClauseDesk", "loss", "[I", true)
  | _ => ("OptimaWorks$ClauseDesk", "musts", "I", false)
def tyX0 : Nat → FieldType := fun k => match k with
  | 0 => .int
  | 1 => .array .int
  | 2 => .array .int
  | 3 => .array .int
  | 4 => .array .int
  | 5 => .array .int
  | _ => .int
abbrev wsX00 : List Cond := u_ws RX0 TX0 7
theorem nmX0 : ∀ a, a < 7 → ∀ b, b < 7 → a ≠ b → (TX0 a).2.1 ≠ (TX0 b).2.1 := by decide +kernel
theorem tyX0_ok : ∀ k, k < 7 → parseFieldDescriptor (TX0 k).2.2.1 = some (tyX0 k) := by decide +kernel
abbrev cX0_init : ByteArray := prog_2_method_1_code
def yX0_init : MethodName := ⟨RX0, "<init>", "()V"⟩
abbrev cX0_addClause : ByteArray := prog_2_method_2_code
def yX0_addClause : MethodName := ⟨RX0, "addClause", "(III)I"⟩
abbrev cX0_dropClause : ByteArray := prog_2_method_3_code
def yX0_dropClause : MethodName := ⟨RX0, "dropClause", "()Z"⟩
abbrev cX0_mark : ByteArray := prog_2_method_4_code
def yX0_mark : MethodName := ⟨RX0, "mark", "(II)V"⟩
abbrev cX0_least : ByteArray := prog_2_method_5_code
def yX0_least : MethodName := ⟨RX0, "least", "(Z)I"⟩
abbrev cX0_models : ByteArray := prog_2_method_6_code
def yX0_models : MethodName := ⟨RX0, "models", "()I"⟩
abbrev cX0_core : ByteArray := prog_2_method_7_code
def yX0_core : MethodName := ⟨RX0, "core", "()I"⟩
abbrev cX0_canKeep : ByteArray := prog_2_method_8_code
def yX0_canKeep : MethodName := ⟨RX0, "canKeep", "(I)Z"⟩
def RX1 : String := "OptimaWorks$Model"
def TX1 : u_T := fun k => match k with
  | 0 => ("OptimaWorks$Model", "stands", "Z", false)
  | 1 => ("OptimaWorks$Model", "variables", "I", false)
  | 2 => ("OptimaWorks$Model", "rows", "I", false)
  | 3 => ("OptimaWorks$Model", "goals", "I", false)
  | 4 => ("OptimaWorks$Model", "differents", "I", false)
  | 5 => ("OptimaWorks$Model", "cases", "I", false)
  | 6 => ("OptimaWorks$Model", "from", "[I", true)
  | 7 => ("OptimaWorks$Model", "to", "[I", true)
  | 8 => ("OptimaWorks$Model", "whole", "[Z", true)
  | 9 => ("OptimaWorks$Model", "ways", "[I", true)
  | 10 => ("OptimaWorks$Model", "plainRows", "I", false)
  | 11 => ("OptimaWorks$Model", "plainRow", "[I", true)
  | 12 => ("OptimaWorks$Model", "kept", "[I", true)
  | 13 => ("OptimaWorks$Model", "goalOver", "[I", true)
  | 14 => ("OptimaWorks$Model", "goalUnder", "[I", true)
  | 15 => ("OptimaWorks$Model", "goalMax", "[Z", true)
  | _ => ("OptimaWorks$Model", "different", "[I", true)
def tyX1 : Nat → FieldType := fun k => match k with
  | 0 => .boolean
  | 1 => .int
  | 2 => .int
  | 3 => .int
  | 4 => .int
  | 5 => .int
  | 6 => .array .int
  | 7 => .array .int
  | 8 => .array .boolean
  | 9 => .array .int
  | 10 => .int
  | 11 => .array .int
  | 12 => .array .int
  | 13 => .array .int
  | 14 => .array .int
  | 15 => .array .boolean
  | _ => .array .int
abbrev wsX10 : List Cond := u_ws RX1 TX1 17
theorem nmX1 : ∀ a, a < 17 → ∀ b, b < 17 → a ≠ b → (TX1 a).2.1 ≠ (TX1 b).2.1 := by decide +kernel
theorem tyX1_ok : ∀ k, k < 17 → parseFieldDescriptor (TX1 k).2.2.1 = some (tyX1 k) := by decide +kernel
abbrev cX1_init : ByteArray := prog_3_method_1_code
def yX1_init : MethodName := ⟨RX1, "<init>", "()V"⟩
abbrev cX1_empty : ByteArray := prog_3_method_2_code
def yX1_empty : MethodName := ⟨RX1, "empty", "()V"⟩
abbrev cX1_number : ByteArray := prog_3_method_3_code
def yX1_number : MethodName := ⟨RX1, "number", "(III)I"⟩
abbrev cX1_rightSide : ByteArray := prog_3_method_4_code
def yX1_rightSide : MethodName := ⟨RX1, "rightSide", "(II)I"⟩
abbrev cX1_sign : ByteArray := prog_3_method_5_code
def yX1_sign : MethodName := ⟨RX1, "sign", "(II)I"⟩
abbrev cX1_clearWay : ByteArray := prog_3_method_6_code
def yX1_clearWay : MethodName := ⟨RX1, "clearWay", "(II)V"⟩
abbrev cX1_keepNumber : ByteArray := prog_3_method_7_code
def yX1_keepNumber : MethodName := ⟨RX1, "keepNumber", "(IIII)V"⟩
abbrev cX1_keepRight : ByteArray := prog_3_method_8_code
def yX1_keepRight : MethodName := ⟨RX1, "keepRight", "(IIII)V"⟩
abbrev cX1_range : ByteArray := prog_3_method_9_code
def yX1_range : MethodName := ⟨RX1, "range", "(I)I"⟩
abbrev cX1_addRow : ByteArray := prog_3_method_10_code
def yX1_addRow : MethodName := ⟨RX1, "addRow", "(I)V"⟩
abbrev cX1_needs : ByteArray := prog_3_method_11_code
def yX1_needs : MethodName := ⟨RX1, "needs", "()I"⟩
abbrev cX1_needKind : ByteArray := prog_3_method_12_code
def yX1_needKind : MethodName := ⟨RX1, "needKind", "(I)I"⟩
abbrev cX1_needOf : ByteArray := prog_3_method_13_code
def yX1_needOf : MethodName := ⟨RX1, "needOf", "(I)I"⟩
abbrev cX1_isEvenNeed : ByteArray := prog_3_method_14_code
def yX1_isEvenNeed : MethodName := ⟨RX1, "isEvenNeed", "(I)Z"⟩
abbrev cX1_isTurned : ByteArray := prog_3_method_15_code
def yX1_isTurned : MethodName := ⟨RX1, "isTurned", "(I)Z"⟩
abbrev cX1_needNumber : ByteArray := prog_3_method_16_code
def yX1_needNumber : MethodName := ⟨RX1, "needNumber", "(II)I"⟩
abbrev cX1_needBound : ByteArray := prog_3_method_17_code
def yX1_needBound : MethodName := ⟨RX1, "needBound", "(I)I"⟩
def RX2 : String := "OptimaWorks$NetDesk"
def TX2 : u_T := fun k => match k with
  | 0 => ("OptimaWorks$NetDesk", "arcs", "I", false)
  | 1 => ("OptimaWorks$NetDesk", "from", "[I", true)
  | 2 => ("OptimaWorks$NetDesk", "to", "[I", true)
  | 3 => ("OptimaWorks$NetDesk", "room", "[I", true)
  | 4 => ("OptimaWorks$NetDesk", "cost", "[I", true)
  | 5 => ("OptimaWorks$NetDesk", "reached", "I", false)
  | 6 => ("OptimaWorks$NetDesk", "free", "[I", true)
  | 7 => ("OptimaWorks$NetDesk", "before", "[I", true)
  | 8 => ("OptimaWorks$NetDesk", "flow", "[I", true)
  | 9 => ("OptimaWorks$NetDesk", "length", "[I", true)
  | 10 => ("OptimaWorks$NetDesk", "stop", "[I", true)
  | 11 => ("OptimaWorks$NetDesk", "stops", "I", false)
  | 12 => ("OptimaWorks$NetDesk", "price", "[I", true)
  | _ => ("OptimaWorks$NetDesk", "rest", "[I", true)
def tyX2 : Nat → FieldType := fun k => match k with
  | 0 => .int
  | 1 => .array .int
  | 2 => .array .int
  | 3 => .array .int
  | 4 => .array .int
  | 5 => .int
  | 6 => .array .int
  | 7 => .array .int
  | 8 => .array .int
  | 9 => .array .int
  | 10 => .array .int
  | 11 => .int
  | 12 => .array .int
  | _ => .array .int
abbrev wsX20 : List Cond := u_ws RX2 TX2 14
theorem nmX2 : ∀ a, a < 14 → ∀ b, b < 14 → a ≠ b → (TX2 a).2.1 ≠ (TX2 b).2.1 := by decide +kernel
theorem tyX2_ok : ∀ k, k < 14 → parseFieldDescriptor (TX2 k).2.2.1 = some (tyX2 k) := by decide +kernel
abbrev cX2_init : ByteArray := prog_4_method_1_code
def yX2_init : MethodName := ⟨RX2, "<init>", "()V"⟩
abbrev cX2_addArc : ByteArray := prog_4_method_2_code
def yX2_addArc : MethodName := ⟨RX2, "addArc", "(IIII)I"⟩
abbrev cX2_dropArc : ByteArray := prog_4_method_3_code
def yX2_dropArc : MethodName := ⟨RX2, "dropArc", "()Z"⟩
abbrev cX2_fill : ByteArray := prog_4_method_4_code
def yX2_fill : MethodName := ⟨RX2, "fill", "(II)I"⟩
abbrev cX2_reach : ByteArray := prog_4_method_5_code
def yX2_reach : MethodName := ⟨RX2, "reach", "(II)Z"⟩
abbrev cX2_leastCost : ByteArray := prog_4_method_6_code
def yX2_leastCost : MethodName := ⟨RX2, "leastCost", "(III)I"⟩
abbrev cX2_measure : ByteArray := prog_4_method_7_code
def yX2_measure : MethodName := ⟨RX2, "measure", "(I)V"⟩
abbrev cX2_push : ByteArray := prog_4_method_8_code
def yX2_push : MethodName := ⟨RX2, "push", "(III)I"⟩
abbrev cX2_shortest : ByteArray := prog_4_method_9_code
def yX2_shortest : MethodName := ⟨RX2, "shortest", "(III)I"⟩
abbrev cX2_measureBack : ByteArray := prog_4_method_10_code
def yX2_measureBack : MethodName := ⟨RX2, "measureBack", "(I)V"⟩
abbrev cX2_nextNode : ByteArray := prog_4_method_11_code
def yX2_nextNode : MethodName := ⟨RX2, "nextNode", "(I)I"⟩
abbrev cX2_treeArcs : ByteArray := prog_4_method_12_code
def yX2_treeArcs : MethodName := ⟨RX2, "treeArcs", "()J"⟩
abbrev cX2_cheapestUnseen : ByteArray := prog_4_method_13_code
def yX2_cheapestUnseen : MethodName := ⟨RX2, "cheapestUnseen", "(J)I"⟩
abbrev cX2_round : ByteArray := prog_4_method_14_code
def yX2_round : MethodName := ⟨RX2, "round", "(II)I"⟩
abbrev cX2_takeStops : ByteArray := prog_4_method_15_code
def yX2_takeStops : MethodName := ⟨RX2, "takeStops", "(I)V"⟩
abbrev cX2_takePrices : ByteArray := prog_4_method_16_code
def yX2_takePrices : MethodName := ⟨RX2, "takePrices", "()V"⟩
abbrev cX2_restFrom : ByteArray := prog_4_method_17_code
def yX2_restFrom : MethodName := ⟨RX2, "restFrom", "(II)I"⟩
abbrev cX2_costOver : ByteArray := prog_4_method_18_code
def yX2_costOver : MethodName := ⟨RX2, "costOver", "(III)I"⟩
abbrev cX2_nextStop : ByteArray := prog_4_method_19_code
def yX2_nextStop : MethodName := ⟨RX2, "nextStop", "(II)I"⟩
def RX3 : String := "OptimaWorks$Prover"
def TX3 : u_T := fun k => match k with
  | 0 => ("OptimaWorks$Prover", "model", "LOptimaWorks$Model;", true)
  | 1 => ("OptimaWorks$Prover", "solver", "LOptimaWorks$Solver;", true)
  | 2 => ("OptimaWorks$Prover", "tableau", "LOptimaWorks$Tableau;", true)
  | 3 => ("OptimaWorks$Prover", "made", "Z", false)
  | 4 => ("OptimaWorks$Prover", "keptNeeds", "I", false)
  | 5 => ("OptimaWorks$Prover", "kept", "[Z", true)
  | 6 => ("OptimaWorks$Prover", "multiplier", "[LOptimaWorks$Whole;", true)
  | 7 => ("OptimaWorks$Prover", "multiplierUnder", "LOptimaWorks$Whole;", true)
  | 8 => ("OptimaWorks$Prover", "proved", "LOptimaWorks$Whole;", true)
  | 9 => ("OptimaWorks$Prover", "provedUnder", "LOptimaWorks$Whole;", true)
  | 10 => ("OptimaWorks$Prover", "place", "[LOptimaWorks$Whole;", true)
  | 11 => ("OptimaWorks$Prover", "shortfall", "LOptimaWorks$Whole;", true)
  | 12 => ("OptimaWorks$Prover", "under", "LOptimaWorks$Whole;", true)
  | 13 => ("OptimaWorks$Prover", "leftOver", "LOptimaWorks$Whole;", true)
  | 14 => ("OptimaWorks$Prover", "need", "[I", true)
  | 15 => ("OptimaWorks$Prover", "turn", "[I", true)
  | _ => ("OptimaWorks$Prover", "columns", "I", false)
def tyX3 : Nat → FieldType := fun k => match k with
  | 0 => .object "OptimaWorks$Model"
  | 1 => .object "OptimaWorks$Solver"
  | 2 => .object "OptimaWorks$Tableau"
  | 3 => .boolean
  | 4 => .int
  | 5 => .array .boolean
  | 6 => .array (.object "OptimaWorks$Whole")
  | 7 => .object "OptimaWorks$Whole"
  | 8 => .object "OptimaWorks$Whole"
  | 9 => .object "OptimaWorks$Whole"
  | 10 => .array (.object "OptimaWorks$Whole")
  | 11 => .object "OptimaWorks$Whole"
  | 12 => .object "OptimaWorks$Whole"
  | 13 => .object "OptimaWorks$Whole"
  | 14 => .array .int
  | 15 => .array .int
  | _ => .int
abbrev wsX30 : List Cond := u_ws RX3 TX3 17
theorem nmX3 : ∀ a, a < 17 → ∀ b, b < 17 → a ≠ b → (TX3 a).2.1 ≠ (TX3 b).2.1 := by decide +kernel
theorem tyX3_ok : ∀ k, k < 17 → parseFieldDescriptor (TX3 k).2.2.1 = some (tyX3 k) := by decide +kernel
abbrev cX3_init : ByteArray := prog_5_method_1_code
def yX3_init : MethodName := ⟨RX3, "<init>", "(LOptimaWorks$Model;LOptimaWorks$Solver;)V"⟩
abbrev cX3_forget : ByteArray := prog_5_method_2_code
def yX3_forget : MethodName := ⟨RX3, "forget", "()V"⟩
abbrev cX3_makeProof : ByteArray := prog_5_method_3_code
def yX3_makeProof : MethodName := ⟨RX3, "makeProof", "()I"⟩
abbrev cX3_findBest : ByteArray := prog_5_method_4_code
def yX3_findBest : MethodName := ⟨RX3, "findBest", "()V"⟩
abbrev cX3_findShortfall : ByteArray := prog_5_method_5_code
def yX3_findShortfall : MethodName := ⟨RX3, "findShortfall", "()V"⟩
abbrev cX3_layNeed : ByteArray := prog_5_method_6_code
def yX3_layNeed : MethodName := ⟨RX3, "layNeed", "(III)V"⟩
abbrev cX3_takeColumn : ByteArray := prog_5_method_7_code
def yX3_takeColumn : MethodName := ⟨RX3, "takeColumn", "(LOptimaWorks$Whole;I)V"⟩
abbrev cX3_chooseColumns : ByteArray := prog_5_method_8_code
def yX3_chooseColumns : MethodName := ⟨RX3, "chooseColumns", "(Z)V"⟩
abbrev cX3_isTight : ByteArray := prog_5_method_9_code
def yX3_isTight : MethodName := ⟨RX3, "isTight", "(IIZ)Z"⟩
abbrev cX3_layMultipliers : ByteArray := prog_5_method_10_code
def yX3_layMultipliers : MethodName := ⟨RX3, "layMultipliers", "(Z)V"⟩
abbrev cX3_canSink : ByteArray := prog_5_method_11_code
def yX3_canSink : MethodName := ⟨RX3, "canSink", "(I)Z"⟩
abbrev cX3_dropNeed : ByteArray := prog_5_method_12_code
def yX3_dropNeed : MethodName := ⟨RX3, "dropNeed", "(I)V"⟩
abbrev cX3_takeMultipliers : ByteArray := prog_5_method_13_code
def yX3_takeMultipliers : MethodName := ⟨RX3, "takeMultipliers", "()V"⟩
abbrev cX3_tellProved : ByteArray := prog_5_method_14_code
def yX3_tellProved : MethodName := ⟨RX3, "tellProved", "()V"⟩
abbrev cX3_tellMultiplier : ByteArray := prog_5_method_15_code
def yX3_tellMultiplier : MethodName := ⟨RX3, "tellMultiplier", "(I)V"⟩
def RX4 : String := "OptimaWorks$Reader"
def TX4 : u_T := fun k => match k with
  | 0 => ("OptimaWorks$Reader", "words", "LOptimaWorks$Words;", true)
  | 1 => ("OptimaWorks$Reader", "model", "LOptimaWorks$Model;", true)
  | 2 => ("OptimaWorks$Reader", "worker", "LOptimaWorks$Worker;", true)
  | 3 => ("OptimaWorks$Reader", "tree", "[I", false)
  | 4 => ("OptimaWorks$Reader", "used", "I", false)
  | 5 => ("OptimaWorks$Reader", "depth", "I", false)
  | 6 => ("OptimaWorks$Reader", "ownName", "J", false)
  | 7 => ("OptimaWorks$Reader", "binder", "[J", true)
  | 8 => ("OptimaWorks$Reader", "binders", "I", false)
  | 9 => ("OptimaWorks$Reader", "firstSet", "I", false)
  | _ => ("OptimaWorks$Reader", "secondSet", "I", false)
def tyX4 : Nat → FieldType := fun k => match k with
  | 0 => .object "OptimaWorks$Words"
  | 1 => .object "OptimaWorks$Model"
  | 2 => .object "OptimaWorks$Worker"
  | 3 => .array .int
  | 4 => .int
  | 5 => .int
  | 6 => .long
  | 7 => .array .long
  | 8 => .int
  | 9 => .int
  | _ => .int
abbrev wsX40 : List Cond := u_ws RX4 TX4 11
theorem nmX4 : ∀ a, a < 11 → ∀ b, b < 11 → a ≠ b → (TX4 a).2.1 ≠ (TX4 b).2.1 := by decide +kernel
theorem tyX4_ok : ∀ k, k < 11 → parseFieldDescriptor (TX4 k).2.2.1 = some (tyX4 k) := by decide +kernel
abbrev cX4_init : ByteArray := prog_6_method_1_code
def yX4_init : MethodName := ⟨RX4, "<init>", "(LOptimaWorks$Words;LOptimaWorks$Model;)V"⟩
abbrev cX4_readAll : ByteArray := prog_6_method_2_code
def yX4_readAll : MethodName := ⟨RX4, "readAll", "()Z"⟩
abbrev cX4_makeRoom : ByteArray := prog_6_method_3_code
def yX4_makeRoom : MethodName := ⟨RX4, "makeRoom", "()V"⟩
abbrev cX4_node : ByteArray := prog_6_method_4_code
def yX4_node : MethodName := ⟨RX4, "node", "(I)I"⟩
abbrev cX4_takeNewName : ByteArray := prog_6_method_5_code
def yX4_takeNewName : MethodName := ⟨RX4, "takeNewName", "()V"⟩
abbrev cX4_takeSetName : ByteArray := prog_6_method_6_code
def yX4_takeSetName : MethodName := ⟨RX4, "takeSetName", "()I"⟩
abbrev cX4_takePlaces : ByteArray := prog_6_method_7_code
def yX4_takePlaces : MethodName := ⟨RX4, "takePlaces", "()V"⟩
abbrev cX4_readSet : ByteArray := prog_6_method_8_code
def yX4_readSet : MethodName := ⟨RX4, "readSet", "()V"⟩
abbrev cX4_takeWholeNumber : ByteArray := prog_6_method_9_code
def yX4_takeWholeNumber : MethodName := ⟨RX4, "takeWholeNumber", "()I"⟩
abbrev cX4_readParam : ByteArray := prog_6_method_10_code
def yX4_readParam : MethodName := ⟨RX4, "readParam", "()V"⟩
abbrev cX4_readVar : ByteArray := prog_6_method_11_code
def yX4_readVar : MethodName := ⟨RX4, "readVar", "()V"⟩
abbrev cX4_readRow : ByteArray := prog_6_method_12_code
def yX4_readRow : MethodName := ⟨RX4, "readRow", "()V"⟩
abbrev cX4_readDifferent : ByteArray := prog_6_method_13_code
def yX4_readDifferent : MethodName := ⟨RX4, "readDifferent", "()V"⟩
abbrev cX4_takeWholeVar : ByteArray := prog_6_method_14_code
def yX4_takeWholeVar : MethodName := ⟨RX4, "takeWholeVar", "()I"⟩
abbrev cX4_readGoal : ByteArray := prog_6_method_15_code
def yX4_readGoal : MethodName := ⟨RX4, "readGoal", "()V"⟩
abbrev cX4_binding : ByteArray := prog_6_method_16_code
def yX4_binding : MethodName := ⟨RX4, "binding", "()I"⟩
abbrev cX4_addBinder : ByteArray := prog_6_method_17_code
def yX4_addBinder : MethodName := ⟨RX4, "addBinder", "()V"⟩
abbrev cX4_findBinder : ByteArray := prog_6_method_18_code
def yX4_findBinder : MethodName := ⟨RX4, "findBinder", "(J)I"⟩
abbrev cX4_deeper : ByteArray := prog_6_method_19_code
def yX4_deeper : MethodName := ⟨RX4, "deeper", "(Z)V"⟩
abbrev cX4_refuseNoFactor : ByteArray := prog_6_method_20_code
def yX4_refuseNoFactor : MethodName := ⟨RX4, "refuseNoFactor", "()V"⟩
abbrev cX4_linear : ByteArray := prog_6_method_21_code
def yX4_linear : MethodName := ⟨RX4, "linear", "()I"⟩
abbrev cX4_term : ByteArray := prog_6_method_22_code
def yX4_term : MethodName := ⟨RX4, "term", "()I"⟩
abbrev cX4_link : ByteArray := prog_6_method_23_code
def yX4_link : MethodName := ⟨RX4, "link", "(IIII)V"⟩
abbrev cX4_factor : ByteArray := prog_6_method_24_code
def yX4_factor : MethodName := ⟨RX4, "factor", "()I"⟩
abbrev cX4_named : ByteArray := prog_6_method_25_code
def yX4_named : MethodName := ⟨RX4, "named", "()I"⟩
abbrev cX4_summed : ByteArray := prog_6_method_26_code
def yX4_summed : MethodName := ⟨RX4, "summed", "()I"⟩
abbrev cX4_anyOf : ByteArray := prog_6_method_27_code
def yX4_anyOf : MethodName := ⟨RX4, "anyOf", "()I"⟩
abbrev cX4_allOf : ByteArray := prog_6_method_28_code
def yX4_allOf : MethodName := ⟨RX4, "allOf", "()I"⟩
abbrev cX4_oneOf : ByteArray := prog_6_method_29_code
def yX4_oneOf : MethodName := ⟨RX4, "oneOf", "()I"⟩
abbrev cX4_comparison : ByteArray := prog_6_method_30_code
def yX4_comparison : MethodName := ⟨RX4, "comparison", "(Z)I"⟩
def RX5 : String := "OptimaWorks$Solver"
def TX5 : u_T := fun k => match k with
  | 0 => ("OptimaWorks$Solver", "model", "LOptimaWorks$Model;", true)
  | 1 => ("OptimaWorks$Solver", "tableau", "LOptimaWorks$Tableau;", true)
  | 2 => ("OptimaWorks$Solver", "answered", "Z", false)
  | 3 => ("OptimaWorks$Solver", "searched", "Z", false)
  | 4 => ("OptimaWorks$Solver", "searchedRelaxed", "Z", false)
  | 5 => ("OptimaWorks$Solver", "counted", "I", false)
  | 6 => ("OptimaWorks$Solver", "countedCase", "[I", true)
  | 7 => ("OptimaWorks$Solver", "goalNumber", "[J", true)
  | 8 => ("OptimaWorks$Solver", "goalScale", "[J", true)
  | 9 => ("OptimaWorks$Solver", "start", "[I", true)
  | 10 => ("OptimaWorks$Solver", "column", "[I", true)
  | 11 => ("OptimaWorks$Solver", "chosen", "[I", true)
  | 12 => ("OptimaWorks$Solver", "answer", "[LOptimaWorks$Whole;", true)
  | 13 => ("OptimaWorks$Solver", "answerGoal", "[LOptimaWorks$Whole;", true)
  | 14 => ("OptimaWorks$Solver", "answerUnder", "LOptimaWorks$Whole;", true)
  | 15 => ("OptimaWorks$Solver", "trial", "[LOptimaWorks$Whole;", true)
  | 16 => ("OptimaWorks$Solver", "top", "LOptimaWorks$Whole;", true)
  | 17 => ("OptimaWorks$Solver", "bottom", "LOptimaWorks$Whole;", true)
  | _ => ("OptimaWorks$Solver", "spare", "[LOptimaWorks$Whole;", true)
def tyX5 : Nat → FieldType := fun k => match k with
  | 0 => .object "OptimaWorks$Model"
  | 1 => .object "OptimaWorks$Tableau"
  | 2 => .boolean
  | 3 => .boolean
  | 4 => .boolean
  | 5 => .int
  | 6 => .array .int
  | 7 => .array .long
  | 8 => .array .long
  | 9 => .array .int
  | 10 => .array .int
  | 11 => .array .int
  | 12 => .array (.object "OptimaWorks$Whole")
  | 13 => .array (.object "OptimaWorks$Whole")
  | 14 => .object "OptimaWorks$Whole"
  | 15 => .array (.object "OptimaWorks$Whole")
  | 16 => .object "OptimaWorks$Whole"
  | 17 => .object "OptimaWorks$Whole"
  | _ => .array (.object "OptimaWorks$Whole")
abbrev wsX50 : List Cond := u_ws RX5 TX5 19
theorem nmX5 : ∀ a, a < 19 → ∀ b, b < 19 → a ≠ b → (TX5 a).2.1 ≠ (TX5 b).2.1 := by decide +kernel
theorem tyX5_ok : ∀ k, k < 19 → parseFieldDescriptor (TX5 k).2.2.1 = some (tyX5 k) := by decide +kernel
abbrev cX5_init : ByteArray := prog_7_method_1_code
def yX5_init : MethodName := ⟨RX5, "<init>", "(LOptimaWorks$Model;)V"⟩
abbrev cX5_wholes : ByteArray := prog_7_method_2_code
def yX5_wholes : MethodName := ⟨RX5, "wholes", "(I)[LOptimaWorks$Whole;"⟩
abbrev cX5_forget : ByteArray := prog_7_method_3_code
def yX5_forget : MethodName := ⟨RX5, "forget", "()V"⟩
abbrev cX5_findAnswer : ByteArray := prog_7_method_4_code
def yX5_findAnswer : MethodName := ⟨RX5, "findAnswer", "(Z)Z"⟩
abbrev cX5_scaleGoals : ByteArray := prog_7_method_5_code
def yX5_scaleGoals : MethodName := ⟨RX5, "scaleGoals", "()V"⟩
abbrev cX5_scaleOf : ByteArray := prog_7_method_6_code
def yX5_scaleOf : MethodName := ⟨RX5, "scaleOf", "(I)J"⟩
abbrev cX5_scaledNumber : ByteArray := prog_7_method_7_code
def yX5_scaledNumber : MethodName := ⟨RX5, "scaledNumber", "(II)J"⟩
abbrev cX5_choose : ByteArray := prog_7_method_8_code
def yX5_choose : MethodName := ⟨RX5, "choose", "(I)Z"⟩
abbrev cX5_allDiffer : ByteArray := prog_7_method_9_code
def yX5_allDiffer : MethodName := ⟨RX5, "allDiffer", "()Z"⟩
abbrev cX5_differ : ByteArray := prog_7_method_10_code
def yX5_differ : MethodName := ⟨RX5, "differ", "(I)Z"⟩
abbrev cX5_lay : ByteArray := prog_7_method_11_code
def yX5_lay : MethodName := ⟨RX5, "lay", "(ZI)Z"⟩
abbrev cX5_layWay : ByteArray := prog_7_method_12_code
def yX5_layWay : MethodName := ⟨RX5, "layWay", "(III)Z"⟩
abbrev cX5_layGoal : ByteArray := prog_7_method_13_code
def yX5_layGoal : MethodName := ⟨RX5, "layGoal", "(II)V"⟩
abbrev cX5_settle : ByteArray := prog_7_method_14_code
def yX5_settle : MethodName := ⟨RX5, "settle", "(Z)Z"⟩
abbrev cX5_goalRow : ByteArray := prog_7_method_15_code
def yX5_goalRow : MethodName := ⟨RX5, "goalRow", "(I)I"⟩
abbrev cX5_tryAnswer : ByteArray := prog_7_method_16_code
def yX5_tryAnswer : MethodName := ⟨RX5, "tryAnswer", "()V"⟩
abbrev cX5_compare : ByteArray := prog_7_method_17_code
def yX5_compare : MethodName := ⟨RX5, "compare", "(LOptimaWorks$Whole;LOptimaWorks$Whole;)I"⟩
abbrev cX5_takeNumbers : ByteArray := prog_7_method_18_code
def yX5_takeNumbers : MethodName := ⟨RX5, "takeNumbers", "([LOptimaWorks$Whole;)V"⟩
abbrev cX5_keepAnswer : ByteArray := prog_7_method_19_code
def yX5_keepAnswer : MethodName := ⟨RX5, "keepAnswer", "()V"⟩
abbrev cX5_firstWay : ByteArray := prog_7_method_20_code
def yX5_firstWay : MethodName := ⟨RX5, "firstWay", "(I)I"⟩
abbrev cX5_addTimes : ByteArray := prog_7_method_21_code
def yX5_addTimes : MethodName := ⟨RX5, "addTimes", "(LOptimaWorks$Whole;LOptimaWorks$Whole;J)V"⟩
abbrev cX5_tellNumber : ByteArray := prog_7_method_22_code
def yX5_tellNumber : MethodName := ⟨RX5, "tellNumber", "(I)V"⟩
abbrev cX5_tellGoal : ByteArray := prog_7_method_23_code
def yX5_tellGoal : MethodName := ⟨RX5, "tellGoal", "(I)V"⟩
abbrev cX5_setGoal : ByteArray := prog_7_method_24_code
def yX5_setGoal : MethodName := ⟨RX5, "setGoal", "(ILOptimaWorks$Whole;LOptimaWorks$Whole;)V"⟩
abbrev cX5_shortenTold : ByteArray := prog_7_method_25_code
def yX5_shortenTold : MethodName := ⟨RX5, "shortenTold", "()V"⟩
abbrev cX5_countRows : ByteArray := prog_7_method_26_code
def yX5_countRows : MethodName := ⟨RX5, "countRows", "()I"⟩
abbrev cX5_countedNumber : ByteArray := prog_7_method_27_code
def yX5_countedNumber : MethodName := ⟨RX5, "countedNumber", "(II)I"⟩
def RX6 : String := "OptimaWorks$Tableau"
def TX6 : u_T := fun k => match k with
  | 0 => ("OptimaWorks$Tableau", "cell", "[LOptimaWorks$Whole;", true)
  | 1 => ("OptimaWorks$Tableau", "inside", "[I", true)
  | 2 => ("OptimaWorks$Tableau", "outside", "[I", true)
  | 3 => ("OptimaWorks$Tableau", "shut", "[Z", true)
  | 4 => ("OptimaWorks$Tableau", "under", "LOptimaWorks$Whole;", true)
  | 5 => ("OptimaWorks$Tableau", "rows", "I", false)
  | 6 => ("OptimaWorks$Tableau", "allRows", "I", false)
  | 7 => ("OptimaWorks$Tableau", "columns", "I", false)
  | 8 => ("OptimaWorks$Tableau", "turning", "LOptimaWorks$Whole;", true)
  | 9 => ("OptimaWorks$Tableau", "first", "LOptimaWorks$Whole;", true)
  | 10 => ("OptimaWorks$Tableau", "second", "LOptimaWorks$Whole;", true)
  | 11 => ("OptimaWorks$Tableau", "rest", "LOptimaWorks$Whole;", true)
  | _ => ("OptimaWorks$Tableau", "spare", "LOptimaWorks$Whole;", true)
def tyX6 : Nat → FieldType := fun k => match k with
  | 0 => .array (.object "OptimaWorks$Whole")
  | 1 => .array .int
  | 2 => .array .int
  | 3 => .array .boolean
  | 4 => .object "OptimaWorks$Whole"
  | 5 => .int
  | 6 => .int
  | 7 => .int
  | 8 => .object "OptimaWorks$Whole"
  | 9 => .object "OptimaWorks$Whole"
  | 10 => .object "OptimaWorks$Whole"
  | 11 => .object "OptimaWorks$Whole"
  | _ => .object "OptimaWorks$Whole"
abbrev wsX60 : List Cond := u_ws RX6 TX6 13
theorem nmX6 : ∀ a, a < 13 → ∀ b, b < 13 → a ≠ b → (TX6 a).2.1 ≠ (TX6 b).2.1 := by decide +kernel
theorem tyX6_ok : ∀ k, k < 13 → parseFieldDescriptor (TX6 k).2.2.1 = some (tyX6 k) := by decide +kernel
abbrev cX6_init : ByteArray := prog_8_method_1_code
def yX6_init : MethodName := ⟨RX6, "<init>", "()V"⟩
abbrev cX6_begin : ByteArray := prog_8_method_2_code
def yX6_begin : MethodName := ⟨RX6, "begin", "(III)V"⟩
abbrev cX6_rowCount : ByteArray := prog_8_method_3_code
def yX6_rowCount : MethodName := ⟨RX6, "rowCount", "()I"⟩
abbrev cX6_cellAt : ByteArray := prog_8_method_4_code
def yX6_cellAt : MethodName := ⟨RX6, "cellAt", "(II)LOptimaWorks$Whole;"⟩
abbrev cX6_rowOf : ByteArray := prog_8_method_5_code
def yX6_rowOf : MethodName := ⟨RX6, "rowOf", "(I)I"⟩
abbrev cX6_columnOf : ByteArray := prog_8_method_6_code
def yX6_columnOf : MethodName := ⟨RX6, "columnOf", "(I)I"⟩
abbrev cX6_holdAtNought : ByteArray := prog_8_method_7_code
def yX6_holdAtNought : MethodName := ⟨RX6, "holdAtNought", "(I)Z"⟩
abbrev cX6_columnWith : ByteArray := prog_8_method_8_code
def yX6_columnWith : MethodName := ⟨RX6, "columnWith", "(I)I"⟩
abbrev cX6_canKeep : ByteArray := prog_8_method_9_code
def yX6_canKeep : MethodName := ⟨RX6, "canKeep", "()Z"⟩
abbrev cX6_rowBelow : ByteArray := prog_8_method_10_code
def yX6_rowBelow : MethodName := ⟨RX6, "rowBelow", "(Z)I"⟩
abbrev cX6_columnOfSign : ByteArray := prog_8_method_11_code
def yX6_columnOfSign : MethodName := ⟨RX6, "columnOfSign", "(IIZ)I"⟩
abbrev cX6_makeLeast : ByteArray := prog_8_method_12_code
def yX6_makeLeast : MethodName := ⟨RX6, "makeLeast", "(I)V"⟩
abbrev cX6_sink : ByteArray := prog_8_method_13_code
def yX6_sink : MethodName := ⟨RX6, "sink", "(I)Z"⟩
abbrev cX6_keepSunk : ByteArray := prog_8_method_14_code
def yX6_keepSunk : MethodName := ⟨RX6, "keepSunk", "(I)V"⟩
abbrev cX6_drop : ByteArray := prog_8_method_15_code
def yX6_drop : MethodName := ⟨RX6, "drop", "(I)V"⟩
abbrev cX6_isInside : ByteArray := prog_8_method_16_code
def yX6_isInside : MethodName := ⟨RX6, "isInside", "(I)Z"⟩
abbrev cX6_shutOutside : ByteArray := prog_8_method_17_code
def yX6_shutOutside : MethodName := ⟨RX6, "shutOutside", "(I)V"⟩
abbrev cX6_shutWith : ByteArray := prog_8_method_18_code
def yX6_shutWith : MethodName := ⟨RX6, "shutWith", "(I)V"⟩
abbrev cX6_tightest : ByteArray := prog_8_method_19_code
def yX6_tightest : MethodName := ⟨RX6, "tightest", "(I)I"⟩
abbrev cX6_compareRoom : ByteArray := prog_8_method_20_code
def yX6_compareRoom : MethodName := ⟨RX6, "compareRoom", "(III)I"⟩
abbrev cX6_exchange : ByteArray := prog_8_method_21_code
def yX6_exchange : MethodName := ⟨RX6, "exchange", "(II)V"⟩
abbrev cX6_changeCell : ByteArray := prog_8_method_22_code
def yX6_changeCell : MethodName := ⟨RX6, "changeCell", "(LOptimaWorks$Whole;LOptimaWorks$Whole;LOptimaWorks$Whole;Z)V"⟩
def RX7 : String := "OptimaWorks$ValueDesk"
def TX7 : u_T := fun k => match k with
  | 0 => ("OptimaWorks$ValueDesk", "holders", "I", false)
  | 1 => ("OptimaWorks$ValueDesk", "rules", "I", false)
  | 2 => ("OptimaWorks$ValueDesk", "pairs", "[I", true)
  | 3 => ("OptimaWorks$ValueDesk", "domain", "[I", true)
  | 4 => ("OptimaWorks$ValueDesk", "kind", "[I", true)
  | 5 => ("OptimaWorks$ValueDesk", "a", "[I", true)
  | 6 => ("OptimaWorks$ValueDesk", "b", "[I", true)
  | 7 => ("OptimaWorks$ValueDesk", "c", "[I", true)
  | 8 => ("OptimaWorks$ValueDesk", "rulePairs", "[I", true)
  | 9 => ("OptimaWorks$ValueDesk", "lastHolder", "[I", true)
  | 10 => ("OptimaWorks$ValueDesk", "now", "[I", true)
  | 11 => ("OptimaWorks$ValueDesk", "doneFor", "I", false)
  | 12 => ("OptimaWorks$ValueDesk", "changed", "Z", false)
  | 13 => ("OptimaWorks$ValueDesk", "fore", "[J", true)
  | 14 => ("OptimaWorks$ValueDesk", "back", "[J", true)
  | 15 => ("OptimaWorks$ValueDesk", "together", "[I", true)
  | 16 => ("OptimaWorks$ValueDesk", "member", "[I", true)
  | 17 => ("OptimaWorks$ValueDesk", "list", "[J", false)
  | 18 => ("OptimaWorks$ValueDesk", "listed", "I", false)
  | _ => ("OptimaWorks$ValueDesk", "listDone", "Z", false)
def tyX7 : Nat → FieldType := fun k => match k with
  | 0 => .int
  | 1 => .int
  | 2 => .array .int
  | 3 => .array .int
  | 4 => .array .int
  | 5 => .array .int
  | 6 => .array .int
  | 7 => .array .int
  | 8 => .array .int
  | 9 => .array .int
  | 10 => .array .int
  | 11 => .int
  | 12 => .boolean
  | 13 => .array .long
  | 14 => .array .long
  | 15 => .array .int
  | 16 => .array .int
  | 17 => .array .long
  | 18 => .int
  | _ => .boolean
abbrev wsX70 : List Cond := u_ws RX7 TX7 20
theorem nmX7 : ∀ a, a < 20 → ∀ b, b < 20 → a ≠ b → (TX7 a).2.1 ≠ (TX7 b).2.1 := by decide +kernel
theorem tyX7_ok : ∀ k, k < 20 → parseFieldDescriptor (TX7 k).2.2.1 = some (tyX7 k) := by decide +kernel
abbrev cX7_init : ByteArray := prog_9_method_1_code
def yX7_init : MethodName := ⟨RX7, "<init>", "()V"⟩
abbrev cX7_forget : ByteArray := prog_9_method_2_code
def yX7_forget : MethodName := ⟨RX7, "forget", "()V"⟩
abbrev cX7_change : ByteArray := prog_9_method_3_code
def yX7_change : MethodName := ⟨RX7, "change", "()V"⟩
abbrev cX7_isHolder : ByteArray := prog_9_method_4_code
def yX7_isHolder : MethodName := ⟨RX7, "isHolder", "(I)Z"⟩
abbrev cX7_isSet : ByteArray := prog_9_method_5_code
def yX7_isSet : MethodName := ⟨RX7, "isSet", "(I)Z"⟩
abbrev cX7_isWithin : ByteArray := prog_9_method_6_code
def yX7_isWithin : MethodName := ⟨RX7, "isWithin", "(II)Z"⟩
abbrev cX7_addHolder : ByteArray := prog_9_method_7_code
def yX7_addHolder : MethodName := ⟨RX7, "addHolder", "(I)I"⟩
abbrev cX7_isRule : ByteArray := prog_9_method_8_code
def yX7_isRule : MethodName := ⟨RX7, "isRule", "(IIII)Z"⟩
abbrev cX7_addRule : ByteArray := prog_9_method_9_code
def yX7_addRule : MethodName := ⟨RX7, "addRule", "(IIII)I"⟩
abbrev cX7_leftOf : ByteArray := prog_9_method_10_code
def yX7_leftOf : MethodName := ⟨RX7, "leftOf", "(I)I"⟩
abbrev cX7_reasonFor : ByteArray := prog_9_method_11_code
def yX7_reasonFor : MethodName := ⟨RX7, "reasonFor", "(II)I"⟩
abbrev cX7_narrow : ByteArray := prog_9_method_12_code
def yX7_narrow : MethodName := ⟨RX7, "narrow", "(I)V"⟩
abbrev cX7_isAnyEmpty : ByteArray := prog_9_method_13_code
def yX7_isAnyEmpty : MethodName := ⟨RX7, "isAnyEmpty", "()Z"⟩
abbrev cX7_cutTo : ByteArray := prog_9_method_14_code
def yX7_cutTo : MethodName := ⟨RX7, "cutTo", "(II)V"⟩
abbrev cX7_narrowBy : ByteArray := prog_9_method_15_code
def yX7_narrowBy : MethodName := ⟨RX7, "narrowBy", "(I)V"⟩
abbrev cX7_takeMembers : ByteArray := prog_9_method_16_code
def yX7_takeMembers : MethodName := ⟨RX7, "takeMembers", "(I)I"⟩
abbrev cX7_narrowDifferent : ByteArray := prog_9_method_17_code
def yX7_narrowDifferent : MethodName := ⟨RX7, "narrowDifferent", "(I)V"⟩
abbrev cX7_highest : ByteArray := prog_9_method_18_code
def yX7_highest : MethodName := ⟨RX7, "highest", "(I)I"⟩
abbrev cX7_lowest : ByteArray := prog_9_method_19_code
def yX7_lowest : MethodName := ⟨RX7, "lowest", "(I)I"⟩
abbrev cX7_narrowOrder : ByteArray := prog_9_method_20_code
def yX7_narrowOrder : MethodName := ⟨RX7, "narrowOrder", "(III)V"⟩
abbrev cX7_narrowSum : ByteArray := prog_9_method_21_code
def yX7_narrowSum : MethodName := ⟨RX7, "narrowSum", "(I)V"⟩
abbrev cX7_moveUp : ByteArray := prog_9_method_22_code
def yX7_moveUp : MethodName := ⟨RX7, "moveUp", "(II)V"⟩
abbrev cX7_moveDown : ByteArray := prog_9_method_23_code
def yX7_moveDown : MethodName := ⟨RX7, "moveDown", "(II)Z"⟩
abbrev cX7_narrowMost : ByteArray := prog_9_method_24_code
def yX7_narrowMost : MethodName := ⟨RX7, "narrowMost", "(I)V"⟩
abbrev cX7_narrowPairs : ByteArray := prog_9_method_25_code
def yX7_narrowPairs : MethodName := ⟨RX7, "narrowPairs", "(I)V"⟩
abbrev cX7_listingSize : ByteArray := prog_9_method_26_code
def yX7_listingSize : MethodName := ⟨RX7, "listingSize", "()I"⟩
abbrev cX7_listedValue : ByteArray := prog_9_method_27_code
def yX7_listedValue : MethodName := ⟨RX7, "listedValue", "(II)I"⟩
abbrev cX7_isListable : ByteArray := prog_9_method_28_code
def yX7_isListable : MethodName := ⟨RX7, "isListable", "()Z"⟩
abbrev cX7_makeListing : ByteArray := prog_9_method_29_code
def yX7_makeListing : MethodName := ⟨RX7, "makeListing", "()V"⟩
abbrev cX7_nextValue : ByteArray := prog_9_method_30_code
def yX7_nextValue : MethodName := ⟨RX7, "nextValue", "(I)I"⟩
abbrev cX7_keepListed : ByteArray := prog_9_method_31_code
def yX7_keepListed : MethodName := ⟨RX7, "keepListed", "()V"⟩
abbrev cX7_keepsAt : ByteArray := prog_9_method_32_code
def yX7_keepsAt : MethodName := ⟨RX7, "keepsAt", "(I)Z"⟩
abbrev cX7_keeps : ByteArray := prog_9_method_33_code
def yX7_keeps : MethodName := ⟨RX7, "keeps", "(I)Z"⟩
def RX8 : String := "OptimaWorks$Whole"
def TX8 : u_T := fun k => match k with
  | 0 => ("OptimaWorks$Whole", "limb", "[J", true)
  | 1 => ("OptimaWorks$Whole", "length", "I", false)
  | _ => ("OptimaWorks$Whole", "below", "Z", false)
def tyX8 : Nat → FieldType := fun k => match k with
  | 0 => .array .long
  | 1 => .int
  | _ => .boolean
abbrev wsX80 : List Cond := u_ws RX8 TX8 3
theorem nmX8 : ∀ a, a < 3 → ∀ b, b < 3 → a ≠ b → (TX8 a).2.1 ≠ (TX8 b).2.1 := by decide +kernel
theorem tyX8_ok : ∀ k, k < 3 → parseFieldDescriptor (TX8 k).2.2.1 = some (tyX8 k) := by decide +kernel
abbrev cX8_init : ByteArray := prog_10_method_1_code
def yX8_init : MethodName := ⟨RX8, "<init>", "()V"⟩
abbrev cX8_setLong : ByteArray := prog_10_method_2_code
def yX8_setLong : MethodName := ⟨RX8, "setLong", "(J)V"⟩
abbrev cX8_copy : ByteArray := prog_10_method_3_code
def yX8_copy : MethodName := ⟨RX8, "copy", "(LOptimaWorks$Whole;)V"⟩
abbrev cX8_sign : ByteArray := prog_10_method_4_code
def yX8_sign : MethodName := ⟨RX8, "sign", "()I"⟩
abbrev cX8_isOne : ByteArray := prog_10_method_5_code
def yX8_isOne : MethodName := ⟨RX8, "isOne", "()Z"⟩
abbrev cX8_isSmall : ByteArray := prog_10_method_6_code
def yX8_isSmall : MethodName := ⟨RX8, "isSmall", "()Z"⟩
abbrev cX8_small : ByteArray := prog_10_method_7_code
def yX8_small : MethodName := ⟨RX8, "small", "()J"⟩
abbrev cX8_negate : ByteArray := prog_10_method_8_code
def yX8_negate : MethodName := ⟨RX8, "negate", "()V"⟩
abbrev cX8_trim : ByteArray := prog_10_method_9_code
def yX8_trim : MethodName := ⟨RX8, "trim", "()V"⟩
abbrev cX8_compareSize : ByteArray := prog_10_method_10_code
def yX8_compareSize : MethodName := ⟨RX8, "compareSize", "(LOptimaWorks$Whole;)I"⟩
abbrev cX8_add : ByteArray := prog_10_method_11_code
def yX8_add : MethodName := ⟨RX8, "add", "(LOptimaWorks$Whole;)V"⟩
abbrev cX8_addSize : ByteArray := prog_10_method_12_code
def yX8_addSize : MethodName := ⟨RX8, "addSize", "(LOptimaWorks$Whole;)V"⟩
abbrev cX8_takeSize : ByteArray := prog_10_method_13_code
def yX8_takeSize : MethodName := ⟨RX8, "takeSize", "(LOptimaWorks$Whole;LOptimaWorks$Whole;)V"⟩
abbrev cX8_setProduct : ByteArray := prog_10_method_14_code
def yX8_setProduct : MethodName := ⟨RX8, "setProduct", "(LOptimaWorks$Whole;LOptimaWorks$Whole;)V"⟩
abbrev cX8_divideSmall : ByteArray := prog_10_method_15_code
def yX8_divideSmall : MethodName := ⟨RX8, "divideSmall", "(J)J"⟩
abbrev cX8_divide : ByteArray := prog_10_method_16_code
def yX8_divide : MethodName := ⟨RX8, "divide", "(LOptimaWorks$Whole;LOptimaWorks$Whole;LOptimaWorks$Whole;)V"⟩
abbrev cX8_setShifted : ByteArray := prog_10_method_17_code
def yX8_setShifted : MethodName := ⟨RX8, "setShifted", "(LOptimaWorks$Whole;I)V"⟩
abbrev cX8_shiftBack : ByteArray := prog_10_method_18_code
def yX8_shiftBack : MethodName := ⟨RX8, "shiftBack", "(I)V"⟩
abbrev cX8_takeTimes : ByteArray := prog_10_method_19_code
def yX8_takeTimes : MethodName := ⟨RX8, "takeTimes", "(LOptimaWorks$Whole;II)J"⟩
def RX9 : String := "OptimaWorks$Words"
def TX9 : u_T := fun k => match k with
  | 0 => ("OptimaWorks$Words", "tape", "[B", false)
  | 1 => ("OptimaWorks$Words", "length", "I", false)
  | 2 => ("OptimaWorks$Words", "fault", "I", false)
  | 3 => ("OptimaWorks$Words", "place", "I", false)
  | 4 => ("OptimaWorks$Words", "kind", "I", false)
  | 5 => ("OptimaWorks$Words", "at", "I", false)
  | 6 => ("OptimaWorks$Words", "number", "I", false)
  | 7 => ("OptimaWorks$Words", "name", "J", false)
  | _ => ("OptimaWorks$Words", "next", "I", false)
def tyX9 : Nat → FieldType := fun k => match k with
  | 0 => .array .byte
  | 1 => .int
  | 2 => .int
  | 3 => .int
  | 4 => .int
  | 5 => .int
  | 6 => .int
  | 7 => .long
  | _ => .int
abbrev wsX90 : List Cond := u_ws RX9 TX9 9
theorem nmX9 : ∀ a, a < 9 → ∀ b, b < 9 → a ≠ b → (TX9 a).2.1 ≠ (TX9 b).2.1 := by decide +kernel
theorem tyX9_ok : ∀ k, k < 9 → parseFieldDescriptor (TX9 k).2.2.1 = some (tyX9 k) := by decide +kernel
abbrev cX9_init : ByteArray := prog_11_method_1_code
def yX9_init : MethodName := ⟨RX9, "<init>", "()V"⟩
abbrev cX9_append : ByteArray := prog_11_method_2_code
def yX9_append : MethodName := ⟨RX9, "append", "(I)V"⟩
abbrev cX9_fail : ByteArray := prog_11_method_3_code
def yX9_fail : MethodName := ⟨RX9, "fail", "(II)V"⟩
abbrev cX9_failHere : ByteArray := prog_11_method_4_code
def yX9_failHere : MethodName := ⟨RX9, "failHere", "(I)V"⟩
abbrev cX9_failWord : ByteArray := prog_11_method_5_code
def yX9_failWord : MethodName := ⟨RX9, "failWord", "()V"⟩
abbrev cX9_begin : ByteArray := prog_11_method_6_code
def yX9_begin : MethodName := ⟨RX9, "begin", "()V"⟩
abbrev cX9_advance : ByteArray := prog_11_method_7_code
def yX9_advance : MethodName := ⟨RX9, "advance", "()V"⟩
abbrev cX9_take : ByteArray := prog_11_method_8_code
def yX9_take : MethodName := ⟨RX9, "take", "(I)V"⟩
abbrev cX9_skipBlanks : ByteArray := prog_11_method_9_code
def yX9_skipBlanks : MethodName := ⟨RX9, "skipBlanks", "()V"⟩
abbrev cX9_takeName : ByteArray := prog_11_method_10_code
def yX9_takeName : MethodName := ⟨RX9, "takeName", "()V"⟩
abbrev cX9_keywordOf : ByteArray := prog_11_method_11_code
def yX9_keywordOf : MethodName := ⟨RX9, "keywordOf", "(I)I"⟩
abbrev cX9_takeNumber : ByteArray := prog_11_method_12_code
def yX9_takeNumber : MethodName := ⟨RX9, "takeNumber", "()V"⟩
abbrev cX9_takeSign : ByteArray := prog_11_method_13_code
def yX9_takeSign : MethodName := ⟨RX9, "takeSign", "(I)V"⟩
def RX10 : String := "OptimaWorks$Worker"
def TX10 : u_T := fun k => match k with
  | 0 => ("OptimaWorks$Worker", "words", "LOptimaWorks$Words;", true)
  | 1 => ("OptimaWorks$Worker", "model", "LOptimaWorks$Model;", true)
  | 2 => ("OptimaWorks$Worker", "tree", "[I", false)
  | 3 => ("OptimaWorks$Worker", "names", "I", false)
  | 4 => ("OptimaWorks$Worker", "key", "[J", true)
  | 5 => ("OptimaWorks$Worker", "kind", "[I", true)
  | 6 => ("OptimaWorks$Worker", "one", "[I", true)
  | 7 => ("OptimaWorks$Worker", "two", "[I", true)
  | 8 => ("OptimaWorks$Worker", "base", "[I", true)
  | 9 => ("OptimaWorks$Worker", "params", "I", false)
  | 10 => ("OptimaWorks$Worker", "paramOver", "[I", false)
  | 11 => ("OptimaWorks$Worker", "paramUnder", "[I", false)
  | 12 => ("OptimaWorks$Worker", "over", "[J", true)
  | 13 => ("OptimaWorks$Worker", "under", "[J", true)
  | 14 => ("OptimaWorks$Worker", "bound", "[I", true)
  | 15 => ("OptimaWorks$Worker", "nameAt", "I", false)
  | 16 => ("OptimaWorks$Worker", "startAt", "I", false)
  | 17 => ("OptimaWorks$Worker", "steps", "I", false)
  | 18 => ("OptimaWorks$Worker", "scaleOver", "J", false)
  | _ => ("OptimaWorks$Worker", "scaleUnder", "J", false)
def tyX10 : Nat → FieldType := fun k => match k with
  | 0 => .object "OptimaWorks$Words"
  | 1 => .object "OptimaWorks$Model"
  | 2 => .array .int
  | 3 => .int
  | 4 => .array .long
  | 5 => .array .int
  | 6 => .array .int
  | 7 => .array .int
  | 8 => .array .int
  | 9 => .int
  | 10 => .array .int
  | 11 => .array .int
  | 12 => .array .long
  | 13 => .array .long
  | 14 => .array .int
  | 15 => .int
  | 16 => .int
  | 17 => .int
  | 18 => .long
  | _ => .long
abbrev wsX100 : List Cond := u_ws RX10 TX10 20
theorem nmX10 : ∀ a, a < 20 → ∀ b, b < 20 → a ≠ b → (TX10 a).2.1 ≠ (TX10 b).2.1 := by decide +kernel
theorem tyX10_ok : ∀ k, k < 20 → parseFieldDescriptor (TX10 k).2.2.1 = some (tyX10 k) := by decide +kernel
abbrev cX10_init : ByteArray := prog_12_method_1_code
def yX10_init : MethodName := ⟨RX10, "<init>", "(LOptimaWorks$Words;LOptimaWorks$Model;)V"⟩
abbrev cX10_begin : ByteArray := prog_12_method_2_code
def yX10_begin : MethodName := ⟨RX10, "begin", "([II)V"⟩
abbrev cX10_startDeclaration : ByteArray := prog_12_method_3_code
def yX10_startDeclaration : MethodName := ⟨RX10, "startDeclaration", "(I)V"⟩
abbrev cX10_find : ByteArray := prog_12_method_4_code
def yX10_find : MethodName := ⟨RX10, "find", "(J)I"⟩
abbrev cX10_findValue : ByteArray := prog_12_method_5_code
def yX10_findValue : MethodName := ⟨RX10, "findValue", "(J)I"⟩
abbrev cX10_addName : ByteArray := prog_12_method_6_code
def yX10_addName : MethodName := ⟨RX10, "addName", "(JIIII)V"⟩
abbrev cX10_members : ByteArray := prog_12_method_7_code
def yX10_members : MethodName := ⟨RX10, "members", "(II)I"⟩
abbrev cX10_doParam : ByteArray := prog_12_method_8_code
def yX10_doParam : MethodName := ⟨RX10, "doParam", "(I)V"⟩
abbrev cX10_doVar : ByteArray := prog_12_method_9_code
def yX10_doVar : MethodName := ⟨RX10, "doVar", "(IIIZ)V"⟩
abbrev cX10_farEnd : ByteArray := prog_12_method_10_code
def yX10_farEnd : MethodName := ⟨RX10, "farEnd", "(I)I"⟩
abbrev cX10_multiplyCases : ByteArray := prog_12_method_11_code
def yX10_multiplyCases : MethodName := ⟨RX10, "multiplyCases", "(I)V"⟩
abbrev cX10_doRows : ByteArray := prog_12_method_12_code
def yX10_doRows : MethodName := ⟨RX10, "doRows", "(IIII)V"⟩
abbrev cX10_doGoal : ByteArray := prog_12_method_13_code
def yX10_doGoal : MethodName := ⟨RX10, "doGoal", "(IZ)V"⟩
abbrev cX10_keepWay : ByteArray := prog_12_method_14_code
def yX10_keepWay : MethodName := ⟨RX10, "keepWay", "(III)V"⟩
abbrev cX10_scaled : ByteArray := prog_12_method_15_code
def yX10_scaled : MethodName := ⟨RX10, "scaled", "(IIII)I"⟩
abbrev cX10_signOf : ByteArray := prog_12_method_16_code
def yX10_signOf : MethodName := ⟨RX10, "signOf", "(I)I"⟩
abbrev cX10_leaveDifference : ByteArray := prog_12_method_17_code
def yX10_leaveDifference : MethodName := ⟨RX10, "leaveDifference", "(I)V"⟩
abbrev cX10_product : ByteArray := prog_12_method_18_code
def yX10_product : MethodName := ⟨RX10, "product", "(JJI)I"⟩
abbrev cX10_stretchWay : ByteArray := prog_12_method_19_code
def yX10_stretchWay : MethodName := ⟨RX10, "stretchWay", "(III)Z"⟩
abbrev cX10_divisor : ByteArray := prog_12_method_20_code
def yX10_divisor : MethodName := ⟨RX10, "divisor", "(JJ)J"⟩
abbrev cX10_step : ByteArray := prog_12_method_21_code
def yX10_step : MethodName := ⟨RX10, "step", "()V"⟩
abbrev cX10_setNumber : ByteArray := prog_12_method_22_code
def yX10_setNumber : MethodName := ⟨RX10, "setNumber", "(IJJ)V"⟩
abbrev cX10_hasVariables : ByteArray := prog_12_method_23_code
def yX10_hasVariables : MethodName := ⟨RX10, "hasVariables", "(I)Z"⟩
abbrev cX10_setFraction : ByteArray := prog_12_method_24_code
def yX10_setFraction : MethodName := ⟨RX10, "setFraction", "(IJJI)V"⟩
abbrev cX10_join : ByteArray := prog_12_method_25_code
def yX10_join : MethodName := ⟨RX10, "join", "(IZI)V"⟩
abbrev cX10_multiply : ByteArray := prog_12_method_26_code
def yX10_multiply : MethodName := ⟨RX10, "multiply", "(II)V"⟩
abbrev cX10_divide : ByteArray := prog_12_method_27_code
def yX10_divide : MethodName := ⟨RX10, "divide", "(II)V"⟩
abbrev cX10_linear : ByteArray := prog_12_method_28_code
def yX10_linear : MethodName := ⟨RX10, "linear", "(II)V"⟩
abbrev cX10_term : ByteArray := prog_12_method_29_code
def yX10_term : MethodName := ⟨RX10, "term", "(II)V"⟩
abbrev cX10_factor : ByteArray := prog_12_method_30_code
def yX10_factor : MethodName := ⟨RX10, "factor", "(II)V"⟩
abbrev cX10_turn : ByteArray := prog_12_method_31_code
def yX10_turn : MethodName := ⟨RX10, "turn", "(I)V"⟩
abbrev cX10_lookUp : ByteArray := prog_12_method_32_code
def yX10_lookUp : MethodName := ⟨RX10, "lookUp", "(II)V"⟩
abbrev cX10_place : ByteArray := prog_12_method_33_code
def yX10_place : MethodName := ⟨RX10, "place", "(III)I"⟩
abbrev cX10_number : ByteArray := prog_12_method_34_code
def yX10_number : MethodName := ⟨RX10, "number", "(II)V"⟩
abbrev cX10_boundMembers : ByteArray := prog_12_method_35_code
def yX10_boundMembers : MethodName := ⟨RX10, "boundMembers", "(I)I"⟩
abbrev cX10_bind : ByteArray := prog_12_method_36_code
def yX10_bind : MethodName := ⟨RX10, "bind", "(II)V"⟩
abbrev cX10_sum : ByteArray := prog_12_method_37_code
def yX10_sum : MethodName := ⟨RX10, "sum", "(II)V"⟩
abbrev cX10_anyHolds : ByteArray := prog_12_method_38_code
def yX10_anyHolds : MethodName := ⟨RX10, "anyHolds", "(II)Z"⟩
abbrev cX10_allHold : ByteArray := prog_12_method_39_code
def yX10_allHold : MethodName := ⟨RX10, "allHold", "(II)Z"⟩
abbrev cX10_oneHolds : ByteArray := prog_12_method_40_code
def yX10_oneHolds : MethodName := ⟨RX10, "oneHolds", "(II)Z"⟩
abbrev cX10_compares : ByteArray := prog_12_method_41_code
def yX10_compares : MethodName := ⟨RX10, "compares", "(II)Z"⟩
def RX11 : String := "OptimaWorks"
def TX11 : u_T := fun k => match k with
  | 0 => ("OptimaWorks", "ready", "[I", true)
  | 1 => ("OptimaWorks", "words", "LOptimaWorks$Words;", true)
  | 2 => ("OptimaWorks", "model", "LOptimaWorks$Model;", true)
  | 3 => ("OptimaWorks", "sheet", "[B", false)
  | 4 => ("OptimaWorks", "sheetLength", "I", false)
  | 5 => ("OptimaWorks", "reader", "LOptimaWorks$Reader;", false)
  | 6 => ("OptimaWorks", "solver", "LOptimaWorks$Solver;", false)
  | 7 => ("OptimaWorks", "prover", "LOptimaWorks$Prover;", false)
  | 8 => ("OptimaWorks", "values", "LOptimaWorks$ValueDesk;", false)
  | 9 => ("OptimaWorks", "clauses", "LOptimaWorks$ClauseDesk;", false)
  | _ => ("OptimaWorks", "nets", "LOptimaWorks$NetDesk;", false)
def tyX11 : Nat → FieldType := fun k => match k with
  | 0 => .array .int
  | 1 => .object "OptimaWorks$Words"
  | 2 => .object "OptimaWorks$Model"
  | 3 => .array .byte
  | 4 => .int
  | 5 => .object "OptimaWorks$Reader"
  | 6 => .object "OptimaWorks$Solver"
  | 7 => .object "OptimaWorks$Prover"
  | 8 => .object "OptimaWorks$ValueDesk"
  | 9 => .object "OptimaWorks$ClauseDesk"
  | _ => .object "OptimaWorks$NetDesk"
abbrev wsX110 : List Cond := u_ws RX11 TX11 11
theorem nmX11 : ∀ a, a < 11 → ∀ b, b < 11 → a ≠ b → (TX11 a).2.1 ≠ (TX11 b).2.1 := by decide +kernel
theorem tyX11_ok : ∀ k, k < 11 → parseFieldDescriptor (TX11 k).2.2.1 = some (tyX11 k) := by decide +kernel
abbrev cX11_init : ByteArray := prog_1_method_1_code
def yX11_init : MethodName := ⟨RX11, "<init>", "()V"⟩
abbrev cX11_feed : ByteArray := prog_1_method_2_code
def yX11_feed : MethodName := ⟨RX11, "feed", "(IIIII)V"⟩
abbrev cX11_end : ByteArray := prog_1_method_3_code
def yX11_end : MethodName := ⟨RX11, "end", "(I)I"⟩
abbrev cX11_wipe : ByteArray := prog_1_method_4_code
def yX11_wipe : MethodName := ⟨RX11, "wipe", "()V"⟩
abbrev cX11_read : ByteArray := prog_1_method_5_code
def yX11_read : MethodName := ⟨RX11, "read", "()I"⟩
abbrev cX11_fault : ByteArray := prog_1_method_6_code
def yX11_fault : MethodName := ⟨RX11, "fault", "(I)I"⟩
abbrev cX11_variable : ByteArray := prog_1_method_7_code
def yX11_variable : MethodName := ⟨RX11, "variable", "(II)I"⟩
abbrev cX11_row : ByteArray := prog_1_method_8_code
def yX11_row : MethodName := ⟨RX11, "row", "(III)I"⟩
abbrev cX11_goal : ByteArray := prog_1_method_9_code
def yX11_goal : MethodName := ⟨RX11, "goal", "(IIZ)I"⟩
abbrev cX11_write : ByteArray := prog_1_method_10_code
def yX11_write : MethodName := ⟨RX11, "write", "()I"⟩
abbrev cX11_needModel : ByteArray := prog_1_method_11_code
def yX11_needModel : MethodName := ⟨RX11, "needModel", "()V"⟩
abbrev cX11_solve : ByteArray := prog_1_method_12_code
def yX11_solve : MethodName := ⟨RX11, "solve", "(Z)Z"⟩
abbrev cX11_value : ByteArray := prog_1_method_13_code
def yX11_value : MethodName := ⟨RX11, "value", "(I)I"⟩
abbrev cX11_best : ByteArray := prog_1_method_14_code
def yX11_best : MethodName := ⟨RX11, "best", "(I)I"⟩
abbrev cX11_way : ByteArray := prog_1_method_15_code
def yX11_way : MethodName := ⟨RX11, "way", "(I)I"⟩
abbrev cX11_needAnswer : ByteArray := prog_1_method_16_code
def yX11_needAnswer : MethodName := ⟨RX11, "needAnswer", "(II)V"⟩
abbrev cX11_count : ByteArray := prog_1_method_17_code
def yX11_count : MethodName := ⟨RX11, "count", "()I"⟩
abbrev cX11_counted : ByteArray := prog_1_method_18_code
def yX11_counted : MethodName := ⟨RX11, "counted", "(II)I"⟩
abbrev cX11_theSolver : ByteArray := prog_1_method_19_code
def yX11_theSolver : MethodName := ⟨RX11, "theSolver", "()LOptimaWorks$Solver;"⟩
abbrev cX11_prove : ByteArray := prog_1_method_20_code
def yX11_prove : MethodName := ⟨RX11, "prove", "()I"⟩
abbrev cX11_need : ByteArray := prog_1_method_21_code
def yX11_need : MethodName := ⟨RX11, "need", "(II)I"⟩
abbrev cX11_multiplier : ByteArray := prog_1_method_22_code
def yX11_multiplier : MethodName := ⟨RX11, "multiplier", "(I)I"⟩
abbrev cX11_letter : ByteArray := prog_1_method_23_code
def yX11_letter : MethodName := ⟨RX11, "letter", "(I)I"⟩
abbrev cX11_about : ByteArray := prog_1_method_24_code
def yX11_about : MethodName := ⟨RX11, "about", "(I)I"⟩
abbrev cX11_put : ByteArray := prog_1_method_25_code
def yX11_put : MethodName := ⟨RX11, "put", "(I)V"⟩
abbrev cX11_putText : ByteArray := prog_1_method_26_code
def yX11_putText : MethodName := ⟨RX11, "putText", "(Ljava/lang/String;)V"⟩
abbrev cX11_putNumber : ByteArray := prog_1_method_27_code
def yX11_putNumber : MethodName := ⟨RX11, "putNumber", "(I)V"⟩
abbrev cX11_putWhole : ByteArray := prog_1_method_28_code
def yX11_putWhole : MethodName := ⟨RX11, "putWhole", "(LOptimaWorks$Whole;)V"⟩
abbrev cX11_turnRound : ByteArray := prog_1_method_29_code
def yX11_turnRound : MethodName := ⟨RX11, "turnRound", "(I)V"⟩
abbrev cX11_putTold : ByteArray := prog_1_method_30_code
def yX11_putTold : MethodName := ⟨RX11, "putTold", "()I"⟩
abbrev cX11_putVariable : ByteArray := prog_1_method_31_code
def yX11_putVariable : MethodName := ⟨RX11, "putVariable", "(I)V"⟩
abbrev cX11_putRow : ByteArray := prog_1_method_32_code
def yX11_putRow : MethodName := ⟨RX11, "putRow", "(I)V"⟩
abbrev cX11_putWay : ByteArray := prog_1_method_33_code
def yX11_putWay : MethodName := ⟨RX11, "putWay", "(II)V"⟩
abbrev cX11_putTimes : ByteArray := prog_1_method_34_code
def yX11_putTimes : MethodName := ⟨RX11, "putTimes", "(IIIZ)V"⟩
abbrev cX11_putRatio : ByteArray := prog_1_method_35_code
def yX11_putRatio : MethodName := ⟨RX11, "putRatio", "(II)V"⟩
abbrev cX11_putDifferent : ByteArray := prog_1_method_36_code
def yX11_putDifferent : MethodName := ⟨RX11, "putDifferent", "(I)V"⟩
abbrev cX11_putGoal : ByteArray := prog_1_method_37_code
def yX11_putGoal : MethodName := ⟨RX11, "putGoal", "(I)V"⟩
abbrev cX11_theValues : ByteArray := prog_1_method_38_code
def yX11_theValues : MethodName := ⟨RX11, "theValues", "()LOptimaWorks$ValueDesk;"⟩
abbrev cX11_holder : ByteArray := prog_1_method_39_code
def yX11_holder : MethodName := ⟨RX11, "holder", "(I)I"⟩
abbrev cX11_rule : ByteArray := prog_1_method_40_code
def yX11_rule : MethodName := ⟨RX11, "rule", "(IIII)I"⟩
abbrev cX11_pair : ByteArray := prog_1_method_41_code
def yX11_pair : MethodName := ⟨RX11, "pair", "(II)Z"⟩
abbrev cX11_left : ByteArray := prog_1_method_42_code
def yX11_left : MethodName := ⟨RX11, "left", "(I)I"⟩
abbrev cX11_listing : ByteArray := prog_1_method_43_code
def yX11_listing : MethodName := ⟨RX11, "listing", "()I"⟩
abbrev cX11_listed : ByteArray := prog_1_method_44_code
def yX11_listed : MethodName := ⟨RX11, "listed", "(II)I"⟩
abbrev cX11_reason : ByteArray := prog_1_method_45_code
def yX11_reason : MethodName := ⟨RX11, "reason", "(II)I"⟩
abbrev cX11_clear : ByteArray := prog_1_method_46_code
def yX11_clear : MethodName := ⟨RX11, "clear", "()V"⟩
abbrev cX11_theClauses : ByteArray := prog_1_method_47_code
def yX11_theClauses : MethodName := ⟨RX11, "theClauses", "()LOptimaWorks$ClauseDesk;"⟩
abbrev cX11_clause : ByteArray := prog_1_method_48_code
def yX11_clause : MethodName := ⟨RX11, "clause", "(III)I"⟩
abbrev cX11_unsay : ByteArray := prog_1_method_49_code
def yX11_unsay : MethodName := ⟨RX11, "unsay", "()Z"⟩
abbrev cX11_truth : ByteArray := prog_1_method_50_code
def yX11_truth : MethodName := ⟨RX11, "truth", "(I)I"⟩
abbrev cX11_theNets : ByteArray := prog_1_method_51_code
def yX11_theNets : MethodName := ⟨RX11, "theNets", "()LOptimaWorks$NetDesk;"⟩
abbrev cX11_arc : ByteArray := prog_1_method_52_code
def yX11_arc : MethodName := ⟨RX11, "arc", "(IIII)I"⟩
abbrev cX11_isNode : ByteArray := prog_1_method_53_code
def yX11_isNode : MethodName := ⟨RX11, "isNode", "(I)Z"⟩
abbrev cX11_needNodes : ByteArray := prog_1_method_54_code
def yX11_needNodes : MethodName := ⟨RX11, "needNodes", "(II)V"⟩
abbrev cX11_unarc : ByteArray := prog_1_method_55_code
def yX11_unarc : MethodName := ⟨RX11, "unarc", "()Z"⟩
abbrev cX11_greatest : ByteArray := prog_1_method_56_code
def yX11_greatest : MethodName := ⟨RX11, "greatest", "(II)I"⟩
abbrev cX11_cut : ByteArray := prog_1_method_57_code
def yX11_cut : MethodName := ⟨RX11, "cut", "(II)I"⟩
abbrev cX11_cheapest : ByteArray := prog_1_method_58_code
def yX11_cheapest : MethodName := ⟨RX11, "cheapest", "(III)I"⟩
abbrev cX11_path : ByteArray := prog_1_method_59_code
def yX11_path : MethodName := ⟨RX11, "path", "(III)I"⟩
abbrev cX11_tree : ByteArray := prog_1_method_60_code
def yX11_tree : MethodName := ⟨RX11, "tree", "()J"⟩
abbrev cX11_tour : ByteArray := prog_1_method_61_code
def yX11_tour : MethodName := ⟨RX11, "tour", "(II)I"⟩
def RX12 : String := "OptimaWorksModel"
def TX12 : u_T := fun k => match k with
  | 0 => ("OptimaWorksModel", "thrown", "I", false)
  | 1 => ("OptimaWorksModel", "big", "[I", true)
  | 2 => ("OptimaWorksModel", "sum", "[J", true)
  | 3 => ("OptimaWorksModel", "rest", "[I", true)
  | 4 => ("OptimaWorksModel", "less", "[I", true)
  | 5 => ("OptimaWorksModel", "columns", "I", false)
  | 6 => ("OptimaWorksModel", "rows", "I", false)
  | 7 => ("OptimaWorksModel", "goals", "I", false)
  | 8 => ("OptimaWorksModel", "columnOf", "[I", true)
  | 9 => ("OptimaWorksModel", "rowOf", "[I", true)
  | 10 => ("OptimaWorksModel", "still", "[Z", true)
  | 11 => ("OptimaWorksModel", "quick", "Z", false)
  | 12 => ("OptimaWorksModel", "quickDivisor", "J", false)
  | 13 => ("OptimaWorksModel", "fast", "[J", true)
  | 14 => ("OptimaWorksModel", "later", "[J", true)
  | 15 => ("OptimaWorksModel", "tape", "[B", true)
  | 16 => ("OptimaWorksModel", "taped", "I", false)
  | 17 => ("OptimaWorksModel", "at0", "I", false)
  | 18 => ("OptimaWorksModel", "word", "I", false)
  | 19 => ("OptimaWorksModel", "from", "I", false)
  | 20 => ("OptimaWorksModel", "sign0", "I", false)
  | 21 => ("OptimaWorksModel", "stop", "I", false)
  | 22 => ("OptimaWorksModel", "place", "I", false)
  | 23 => ("OptimaWorksModel", "latest", "I", false)
  | 24 => ("OptimaWorksModel", "latestPlace", "I", false)
  | 25 => ("OptimaWorksModel", "names", "I", false)
  | 26 => ("OptimaWorksModel", "nameKind", "[I", true)
  | 27 => ("OptimaWorksModel", "nameFrom", "[I", true)
  | 28 => ("OptimaWorksModel", "nameLong", "[I", true)
  | 29 => ("OptimaWorksModel", "nameOf", "[I", true)
  | 30 => ("OptimaWorksModel", "binders", "I", false)
  | 31 => ("OptimaWorksModel", "binderFrom", "[I", true)
  | 32 => ("OptimaWorksModel", "binderLong", "[I", true)
  | 33 => ("OptimaWorksModel", "ownFrom", "I", false)
  | 34 => ("OptimaWorksModel", "ownLong", "I", false)
  | 35 => ("OptimaWorksModel", "sets", "I", false)
  | 36 => ("OptimaWorksModel", "params", "I", false)
  | 37 => ("OptimaWorksModel", "vars", "I", false)
  | 38 => ("OptimaWorksModel", "numbers", "I", false)
  | 39 => ("OptimaWorksModel", "setLow", "[I", true)
  | 40 => ("OptimaWorksModel", "setMany", "[I", true)
  | 41 => ("OptimaWorksModel", "paramPlaces", "[I", true)
  | 42 => ("OptimaWorksModel", "paramOne", "[I", true)
  | 43 => ("OptimaWorksModel", "paramTwo", "[I", true)
  | 44 => ("OptimaWorksModel", "paramAt", "[I", true)
  | 45 => ("OptimaWorksModel", "paramTop", "[I", true)
  | 46 => ("OptimaWorksModel", "paramUnder", "[I", true)
  | 47 => ("OptimaWorksModel", "varPlaces", "[I", true)
  | 48 => ("OptimaWorksModel", "varOne", "[I", true)
  | 49 => ("OptimaWorksModel", "varTwo", "[I", true)
  | 50 => ("OptimaWorksModel", "varAt", "[I", true)
  | 51 => ("OptimaWorksModel", "varWhole", "[I", true)
  | 52 => ("OptimaWorksModel", "nodes", "I", false)
  | 53 => ("OptimaWorksModel", "kind", "[I", true)
  | 54 => ("OptimaWorksModel", "partA", "[I", true)
  | 55 => ("OptimaWorksModel", "partB", "[I", true)
  | 56 => ("OptimaWorksModel", "partC", "[I", true)
  | 57 => ("OptimaWorksModel", "where", "[I", true)
  | 58 => ("OptimaWorksModel", "firstA", "[I", true)
  | 59 => ("OptimaWorksModel", "firstB", "[I", true)
  | 60 => ("OptimaWorksModel", "bindings", "I", false)
  | 61 => ("OptimaWorksModel", "bindOne", "[I", true)
  | 62 => ("OptimaWorksModel", "bindTwo", "[I", true)
  | 63 => ("OptimaWorksModel", "bindAt", "[I", true)
  | 64 => ("OptimaWorksModel", "what", "[I", true)
  | 65 => ("OptimaWorksModel", "step", "[I", true)
  | 66 => ("OptimaWorksModel", "got1", "[I", true)
  | 67 => ("OptimaWorksModel", "got2", "[I", true)
  | 68 => ("OptimaWorksModel", "sign1", "[I", true)
  | 69 => ("OptimaWorksModel", "sign2", "[I", true)
  | 70 => ("OptimaWorksModel", "at1", "[I", true)
  | 71 => ("OptimaWorksModel", "at2", "[I", true)
  | 72 => ("OptimaWorksModel", "begins", "[I", true)
  | 73 => ("OptimaWorksModel", "extra", "[I", true)
  | 74 => ("OptimaWorksModel", "deep", "I", false)
  | 75 => ("OptimaWorksModel", "within", "I", false)
  | 76 => ("OptimaWorksModel", "result", "I", false)
  | 77 => ("OptimaWorksModel", "resultFirst", "I", false)
  | 78 => ("OptimaWorksModel", "top", "[I", true)
  | 79 => ("OptimaWorksModel", "under", "[I", true)
  | 80 => ("OptimaWorksModel", "env", "[I", true)
  | 81 => ("OptimaWorksModel", "piled", "I", false)
  | 82 => ("OptimaWorksModel", "steps", "I", false)
  | 83 => ("OptimaWorksModel", "begun", "I", false)
  | 84 => ("OptimaWorksModel", "truth", "Z", false)
  | 85 => ("OptimaWorksModel", "frame", "[I", true)
  | 86 => ("OptimaWorksModel", "stage", "[I", true)
  | 87 => ("OptimaWorksModel", "loopA", "[I", true)
  | 88 => ("OptimaWorksModel", "loopB", "[I", true)
  | 89 => ("OptimaWorksModel", "framed", "I", false)
  | 90 => ("OptimaWorksModel", "variables", "I", false)
  | 91 => ("OptimaWorksModel", "modelRows", "I", false)
  | 92 => ("OptimaWorksModel", "differents", "I", false)
  | 93 => ("OptimaWorksModel", "modelGoals", "I", false)
  | 94 => ("OptimaWorksModel", "cases", "I", false)
  | 95 => ("OptimaWorksModel", "isModel", "Z", false)
  | 96 => ("OptimaWorksModel", "low", "[I", true)
  | 97 => ("OptimaWorksModel", "high", "[I", true)
  | 98 => ("OptimaWorksModel", "whole", "[I", true)
  | 99 => ("OptimaWorksModel", "wayMany", "[I", true)
  | 100 => ("OptimaWorksModel", "wayNumber", "[I", true)
  | 101 => ("OptimaWorksModel", "waySign", "[I", true)
  | 102 => ("OptimaWorksModel", "differentSet", "[I", true)
  | 103 => ("OptimaWorksModel", "goalTop", "[I", true)
  | 104 => ("OptimaWorksModel", "goalUnder", "[I", true)
  | 105 => ("OptimaWorksModel", "goalMax", "[I", true)
  | 106 => ("OptimaWorksModel", "partNode", "[I", true)
  | 107 => ("OptimaWorksModel", "partFirst", "[I", true)
  | 108 => ("OptimaWorksModel", "partSign", "[I", true)
  | 109 => ("OptimaWorksModel", "partMany", "I", false)
  | 110 => ("OptimaWorksModel", "places", "I", false)
  | 111 => ("OptimaWorksModel", "placeOne", "I", false)
  | 112 => ("OptimaWorksModel", "placeTwo", "I", false)
  | 113 => ("OptimaWorksModel", "hasAnswer", "Z", false)
  | 114 => ("OptimaWorksModel", "chosen", "[I", true)
  | 115 => ("OptimaWorksModel", "value", "[I", true)
  | 116 => ("OptimaWorksModel", "fixes", "Z", false)
  | 117 => ("OptimaWorksModel", "hasProof", "Z", false)
  | 118 => ("OptimaWorksModel", "isShort", "Z", false)
  | 119 => ("OptimaWorksModel", "needs", "I", false)
  | 120 => ("OptimaWorksModel", "needKind", "[I", true)
  | 121 => ("OptimaWorksModel", "needOf", "[I", true)
  | 122 => ("OptimaWorksModel", "needKept", "[I", true)
  | 123 => ("OptimaWorksModel", "needColumn", "[I", true)
  | 124 => ("OptimaWorksModel", "out", "[B", true)
  | 125 => ("OptimaWorksModel", "printed", "I", false)
  | 126 => ("OptimaWorksModel", "digits", "[I", true)
  | 127 => ("OptimaWorksModel", "ready", "[I", true)
  | 128 => ("OptimaWorksModel", "holders", "I", false)
  | 129 => ("OptimaWorksModel", "rules", "I", false)
  | 130 => ("OptimaWorksModel", "domain", "[I", true)
  | 131 => ("OptimaWorksModel", "now", "[I", true)
  | 132 => ("OptimaWorksModel", "ruleKind", "[I", true)
  | 133 => ("OptimaWorksModel", "ruleA", "[I", true)
  | 134 => ("OptimaWorksModel", "ruleB", "[I", true)
  | 135 => ("OptimaWorksModel", "ruleC", "[I", true)
  | 136 => ("OptimaWorksModel", "rulePairs", "[I", true)
  | 137 => ("OptimaWorksModel", "pairs", "[I", true)
  | 138 => ("OptimaWorksModel", "barred", "I", false)
  | 139 => ("OptimaWorksModel", "with", "[I", true)
  | 140 => ("OptimaWorksModel", "taker", "[I", true)
  | 141 => ("OptimaWorksModel", "came", "[I", true)
  | 142 => ("OptimaWorksModel", "looked", "[I", true)
  | 143 => ("OptimaWorksModel", "rowValue", "[I", true)
  | 144 => ("OptimaWorksModel", "listedRow", "[I", true)
  | 145 => ("OptimaWorksModel", "listedMany", "I", false)
  | 146 => ("OptimaWorksModel", "clauses", "I", false)
  | 147 => ("OptimaWorksModel", "wants", "[I", true)
  | 148 => ("OptimaWorksModel", "wantsNot", "[I", true)
  | 149 => ("OptimaWorksModel", "weights", "[I", true)
  | 150 => ("OptimaWorksModel", "arcs", "I", false)
  | 151 => ("OptimaWorksModel", "arcFrom", "[I", true)
  | 152 => ("OptimaWorksModel", "arcTo", "[I", true)
  | 153 => ("OptimaWorksModel", "arcRoom", "[I", true)
  | 154 => ("OptimaWorksModel", "arcCost", "[I", true)
  | 155 => ("OptimaWorksModel", "flow", "[I", true)
  | 156 => ("OptimaWorksModel", "price", "[I", true)
  | 157 => ("OptimaWorksModel", "by", "[I", true)
  | 158 => ("OptimaWorksModel", "far", "[I", true)
  | 159 => ("OptimaWorksModel", "joined", "[I", true)
  | 160 => ("OptimaWorksModel", "member1", "[I", true)
  | 161 => ("OptimaWorksModel", "order", "[I", true)
  | _ => ("OptimaWorksModel", "tourBest", "[I", true)
def tyX12 : Nat → FieldType := fun k => match k with
  | 0 => .int
  | 1 => .array .int
  | 2 => .array .long
  | 3 => .array .int
  | 4 => .array .int
  | 5 => .int
  | 6 => .int
  | 7 => .int
  | 8 => .array .int
  | 9 => .array .int
  | 10 => .array .boolean
  | 11 => .boolean
  | 12 => .long
  | 13 => .array .long
  | 14 => .array .long
  | 15 => .array .byte
  | 16 => .int
  | 17 => .int
  | 18 => .int
  | 19 => .int
  | 20 => .int
  | 21 => .int
  | 22 => .int
  | 23 => .int
  | 24 => .int
  | 25 => .int
  | 26 => .array .int
  | 27 => .array .int
  | 28 => .array .int
  | 29 => .array .int
  | 30 => .int
  | 31 => .array .int
  | 32 => .array .int
  | 33 => .int
  | 34 => .int
  | 35 => .int
  | 36 => .int
  | 37 => .int
  | 38 => .int
  | 39 => .array .int
  | 40 => .array .int
  | 41 => .array .int
  | 42 => .array .int
  | 43 => .array .int
  | 44 => .array .int
  | 45 => .array .int
  | 46 => .array .int
  | 47 => .array .int
  | 48 => .array .int
  | 49 => .array .int
  | 50 => .array .int
  | 51 => .array .int
  | 52 => .int
  | 53 => .array .int
  | 54 => .array .int
  | 55 => .array .int
  | 56 => .array .int
  | 57 => .array .int
  | 58 => .array .int
  | 59 => .array .int
  | 60 => .int
  | 61 => .array .int
  | 62 => .array .int
  | 63 => .array .int
  | 64 => .array .int
  | 65 => .array .int
  | 66 => .array .int
  | 67 => .array .int
  | 68 => .array .int
  | 69 => .array .int
  | 70 => .array .int
  | 71 => .array .int
  | 72 => .array .int
  | 73 => .array .int
  | 74 => .int
  | 75 => .int
  | 76 => .int
  | 77 => .int
  | 78 => .array .int
  | 79 => .array .int
  | 80 => .array .int
  | 81 => .int
  | 82 => .int
  | 83 => .int
  | 84 => .boolean
  | 85 => .array .int
  | 86 => .array .int
  | 87 => .array .int
  | 88 => .array .int
  | 89 => .int
  | 90 => .int
  | 91 => .int
  | 92 => .int
  | 93 => .int
  | 94 => .int
  | 95 => .boolean
  | 96 => .array .int
  | 97 => .array .int
  | 98 => .array .int
  | 99 => .array .int
  | 100 => .array .int
  | 101 => .array .int
  | 102 => .array .int
  | 103 => .array .int
  | 104 => .array .int
  | 105 => .array .int
  | 106 => .array .int
  | 107 => .array .int
  | 108 => .array .int
  | 109 => .int
  | 110 => .int
  | 111 => .int
  | 112 => .int
  | 113 => .boolean
  | 114 => .array .int
  | 115 => .array .int
  | 116 => .boolean
  | 117 => .boolean
  | 118 => .boolean
  | 119 => .int
  | 120 => .array .int
  | 121 => .array .int
  | 122 => .array .int
  | 123 => .array .int
  | 124 => .array .byte
  | 125 => .int
  | 126 => .array .int
  | 127 => .array .int
  | 128 => .int
  | 129 => .int
  | 130 => .array .int
  | 131 => .array .int
  | 132 => .array .int
  | 133 => .array .int
  | 134 => .array .int
  | 135 => .array .int
  | 136 => .array .int
  | 137 => .array .int
  | 138 => .int
  | 139 => .array .int
  | 140 => .array .int
  | 141 => .array .int
  | 142 => .array .int
  | 143 => .array .int
  | 144 => .array .int
  | 145 => .int
  | 146 => .int
  | 147 => .array .int
  | 148 => .array .int
  | 149 => .array .int
  | 150 => .int
  | 151 => .array .int
  | 152 => .array .int
  | 153 => .array .int
  | 154 => .array .int
  | 155 => .array .int
  | 156 => .array .int
  | 157 => .array .int
  | 158 => .array .int
  | 159 => .array .int
  | 160 => .array .int
  | 161 => .array .int
  | _ => .array .int
abbrev wsX120 : List Cond := u_ws RX12 TX12 163
theorem nmX12 : ∀ a, a < 163 → ∀ b, b < 163 → a ≠ b → (TX12 a).2.1 ≠ (TX12 b).2.1 := by decide +kernel
theorem tyX12_ok : ∀ k, k < 163 → parseFieldDescriptor (TX12 k).2.2.1 = some (tyX12 k) := by decide +kernel
abbrev cX12_init : ByteArray := prog_14_method_1_code
def yX12_init : MethodName := ⟨RX12, "<init>", "()V"⟩
abbrev cX12_thrown : ByteArray := prog_14_method_2_code
def yX12_thrown : MethodName := ⟨RX12, "thrown", "()I"⟩
abbrev cX12_put : ByteArray := prog_14_method_3_code
def yX12_put : MethodName := ⟨RX12, "put", "(IJ)V"⟩
abbrev cX12_copy : ByteArray := prog_14_method_4_code
def yX12_copy : MethodName := ⟨RX12, "copy", "(II)V"⟩
abbrev cX12_sign : ByteArray := prog_14_method_5_code
def yX12_sign : MethodName := ⟨RX12, "sign", "(I)I"⟩
abbrev cX12_turn : ByteArray := prog_14_method_6_code
def yX12_turn : MethodName := ⟨RX12, "turn", "(I)V"⟩
abbrev cX12_bare : ByteArray := prog_14_method_7_code
def yX12_bare : MethodName := ⟨RX12, "bare", "(II)I"⟩
abbrev cX12_compare : ByteArray := prog_14_method_8_code
def yX12_compare : MethodName := ⟨RX12, "compare", "(II)I"⟩
abbrev cX12_carry : ByteArray := prog_14_method_9_code
def yX12_carry : MethodName := ⟨RX12, "carry", "(III)V"⟩
abbrev cX12_add : ByteArray := prog_14_method_10_code
def yX12_add : MethodName := ⟨RX12, "add", "(IIII)V"⟩
abbrev cX12_times : ByteArray := prog_14_method_11_code
def yX12_times : MethodName := ⟨RX12, "times", "(III)V"⟩
abbrev cX12_divide : ByteArray := prog_14_method_12_code
def yX12_divide : MethodName := ⟨RX12, "divide", "(IIII)V"⟩
abbrev cX12_isMore : ByteArray := prog_14_method_13_code
def yX12_isMore : MethodName := ⟨RX12, "isMore", "(I)Z"⟩
abbrev cX12_common : ByteArray := prog_14_method_14_code
def yX12_common : MethodName := ⟨RX12, "common", "(III)V"⟩
abbrev cX12_shorten : ByteArray := prog_14_method_15_code
def yX12_shorten : MethodName := ⟨RX12, "shorten", "(II)V"⟩
abbrev cX12_against : ByteArray := prog_14_method_16_code
def yX12_against : MethodName := ⟨RX12, "against", "(IIII)I"⟩
abbrev cX12_at : ByteArray := prog_14_method_17_code
def yX12_at : MethodName := ⟨RX12, "at", "(II)I"⟩
abbrev cX12_begin : ByteArray := prog_14_method_18_code
def yX12_begin : MethodName := ⟨RX12, "begin", "(I)V"⟩
abbrev cX12_newRow : ByteArray := prog_14_method_19_code
def yX12_newRow : MethodName := ⟨RX12, "newRow", "()I"⟩
abbrev cX12_newLine : ByteArray := prog_14_method_20_code
def yX12_newLine : MethodName := ⟨RX12, "newLine", "()I"⟩
abbrev cX12_goalRow : ByteArray := prog_14_method_21_code
def yX12_goalRow : MethodName := ⟨RX12, "goalRow", "()I"⟩
abbrev cX12_place1 : ByteArray := prog_14_method_22_code
def yX12_place1 : MethodName := ⟨RX12, "place1", "(II)I"⟩
abbrev cX12_hasten : ByteArray := prog_14_method_23_code
def yX12_hasten : MethodName := ⟨RX12, "hasten", "()V"⟩
abbrev cX12_worth : ByteArray := prog_14_method_24_code
def yX12_worth : MethodName := ⟨RX12, "worth", "(I)J"⟩
abbrev cX12_spill : ByteArray := prog_14_method_25_code
def yX12_spill : MethodName := ⟨RX12, "spill", "()V"⟩
abbrev cX12_pivotsQuick : ByteArray := prog_14_method_26_code
def yX12_pivotsQuick : MethodName := ⟨RX12, "pivotsQuick", "(II)Z"⟩
abbrev cX12_exchange : ByteArray := prog_14_method_27_code
def yX12_exchange : MethodName := ⟨RX12, "exchange", "(II)V"⟩
abbrev cX12_signAt : ByteArray := prog_14_method_28_code
def yX12_signAt : MethodName := ⟨RX12, "signAt", "(II)I"⟩
abbrev cX12_pivot : ByteArray := prog_14_method_29_code
def yX12_pivot : MethodName := ⟨RX12, "pivot", "(II)V"⟩
abbrev cX12_lies : ByteArray := prog_14_method_30_code
def yX12_lies : MethodName := ⟨RX12, "lies", "(III)I"⟩
abbrev cX12_leaving : ByteArray := prog_14_method_31_code
def yX12_leaving : MethodName := ⟨RX12, "leaving", "(I)I"⟩
abbrev cX12_raise : ByteArray := prog_14_method_32_code
def yX12_raise : MethodName := ⟨RX12, "raise", "(I)Z"⟩
abbrev cX12_start : ByteArray := prog_14_method_33_code
def yX12_start : MethodName := ⟨RX12, "start", "()V"⟩
abbrev cX12_canKeep : ByteArray := prog_14_method_34_code
def yX12_canKeep : MethodName := ⟨RX12, "canKeep", "()Z"⟩
abbrev cX12_thing : ByteArray := prog_14_method_35_code
def yX12_thing : MethodName := ⟨RX12, "thing", "(II)V"⟩
abbrev cX12_byteAt : ByteArray := prog_14_method_36_code
def yX12_byteAt : MethodName := ⟨RX12, "byteAt", "(I)I"⟩
abbrev cX12_isLetter : ByteArray := prog_14_method_37_code
def yX12_isLetter : MethodName := ⟨RX12, "isLetter", "(I)Z"⟩
abbrev cX12_isDigit : ByteArray := prog_14_method_38_code
def yX12_isDigit : MethodName := ⟨RX12, "isDigit", "(I)Z"⟩
abbrev cX12_keyLetter : ByteArray := prog_14_method_39_code
def yX12_keyLetter : MethodName := ⟨RX12, "keyLetter", "(I)I"⟩
abbrev cX12_key : ByteArray := prog_14_method_40_code
def yX12_key : MethodName := ⟨RX12, "key", "(II)I"⟩
abbrev cX12_next : ByteArray := prog_14_method_41_code
def yX12_next : MethodName := ⟨RX12, "next", "()V"⟩
abbrev cX12_takeName : ByteArray := prog_14_method_42_code
def yX12_takeName : MethodName := ⟨RX12, "takeName", "()V"⟩
abbrev cX12_takeNumber : ByteArray := prog_14_method_43_code
def yX12_takeNumber : MethodName := ⟨RX12, "takeNumber", "()V"⟩
abbrev cX12_takeSign : ByteArray := prog_14_method_44_code
def yX12_takeSign : MethodName := ⟨RX12, "takeSign", "(I)V"⟩
abbrev cX12_isSign : ByteArray := prog_14_method_45_code
def yX12_isSign : MethodName := ⟨RX12, "isSign", "(I)Z"⟩
abbrev cX12_isKey : ByteArray := prog_14_method_46_code
def yX12_isKey : MethodName := ⟨RX12, "isKey", "(I)Z"⟩
abbrev cX12_faultAt : ByteArray := prog_14_method_47_code
def yX12_faultAt : MethodName := ⟨RX12, "faultAt", "(II)V"⟩
abbrev cX12_wrong : ByteArray := prog_14_method_48_code
def yX12_wrong : MethodName := ⟨RX12, "wrong", "()V"⟩
abbrev cX12_needSign : ByteArray := prog_14_method_49_code
def yX12_needSign : MethodName := ⟨RX12, "needSign", "(I)Z"⟩
abbrev cX12_needKey : ByteArray := prog_14_method_50_code
def yX12_needKey : MethodName := ⟨RX12, "needKey", "(I)Z"⟩
abbrev cX12_sameText : ByteArray := prog_14_method_51_code
def yX12_sameText : MethodName := ⟨RX12, "sameText", "(IIII)Z"⟩
abbrev cX12_declared : ByteArray := prog_14_method_52_code
def yX12_declared : MethodName := ⟨RX12, "declared", "()I"⟩
abbrev cX12_binder : ByteArray := prog_14_method_53_code
def yX12_binder : MethodName := ⟨RX12, "binder", "()I"⟩
abbrev cX12_node : ByteArray := prog_14_method_54_code
def yX12_node : MethodName := ⟨RX12, "node", "(IIIII)I"⟩
abbrev cX12_readBinding : ByteArray := prog_14_method_55_code
def yX12_readBinding : MethodName := ⟨RX12, "readBinding", "()I"⟩
abbrev cX12_readBinder : ByteArray := prog_14_method_56_code
def yX12_readBinder : MethodName := ⟨RX12, "readBinder", "()I"⟩
abbrev cX12_readSet : ByteArray := prog_14_method_57_code
def yX12_readSet : MethodName := ⟨RX12, "readSet", "()I"⟩
abbrev cX12_isNode : ByteArray := prog_14_method_58_code
def yX12_isNode : MethodName := ⟨RX12, "isNode", "(I)Z"⟩
abbrev cX12_canBegin : ByteArray := prog_14_method_59_code
def yX12_canBegin : MethodName := ⟨RX12, "canBegin", "()Z"⟩
abbrev cX12_begin1 : ByteArray := prog_14_method_60_code
def yX12_begin1 : MethodName := ⟨RX12, "begin1", "(I)V"⟩
abbrev cX12_end1 : ByteArray := prog_14_method_61_code
def yX12_end1 : MethodName := ⟨RX12, "end1", "(I)V"⟩
abbrev cX12_read1 : ByteArray := prog_14_method_62_code
def yX12_read1 : MethodName := ⟨RX12, "read1", "(I)I"⟩
abbrev cX12_readLinear : ByteArray := prog_14_method_63_code
def yX12_readLinear : MethodName := ⟨RX12, "readLinear", "(I)V"⟩
abbrev cX12_readFactor : ByteArray := prog_14_method_64_code
def yX12_readFactor : MethodName := ⟨RX12, "readFactor", "(I)V"⟩
abbrev cX12_placesOf : ByteArray := prog_14_method_65_code
def yX12_placesOf : MethodName := ⟨RX12, "placesOf", "(I)I"⟩
abbrev cX12_closeSum : ByteArray := prog_14_method_66_code
def yX12_closeSum : MethodName := ⟨RX12, "closeSum", "(I)V"⟩
abbrev cX12_beginFactor : ByteArray := prog_14_method_67_code
def yX12_beginFactor : MethodName := ⟨RX12, "beginFactor", "(I)V"⟩
abbrev cX12_beginName : ByteArray := prog_14_method_68_code
def yX12_beginName : MethodName := ⟨RX12, "beginName", "(I)V"⟩
abbrev cX12_readTruth : ByteArray := prog_14_method_69_code
def yX12_readTruth : MethodName := ⟨RX12, "readTruth", "(I)V"⟩
abbrev cX12_readOne : ByteArray := prog_14_method_70_code
def yX12_readOne : MethodName := ⟨RX12, "readOne", "(I)V"⟩
abbrev cX12_common1 : ByteArray := prog_14_method_71_code
def yX12_common1 : MethodName := ⟨RX12, "common1", "(JJ)J"⟩
abbrev cX12_put1 : ByteArray := prog_14_method_72_code
def yX12_put1 : MethodName := ⟨RX12, "put1", "(IIJJI)V"⟩
abbrev cX12_nought : ByteArray := prog_14_method_73_code
def yX12_nought : MethodName := ⟨RX12, "nought", "(I)V"⟩
abbrev cX12_hasVariables : ByteArray := prog_14_method_74_code
def yX12_hasVariables : MethodName := ⟨RX12, "hasVariables", "(I)Z"⟩
abbrev cX12_join : ByteArray := prog_14_method_75_code
def yX12_join : MethodName := ⟨RX12, "join", "(IIII)V"⟩
abbrev cX12_scale : ByteArray := prog_14_method_76_code
def yX12_scale : MethodName := ⟨RX12, "scale", "(IIZI)V"⟩
abbrev cX12_stepOne : ByteArray := prog_14_method_77_code
def yX12_stepOne : MethodName := ⟨RX12, "stepOne", "()V"⟩
abbrev cX12_call : ByteArray := prog_14_method_78_code
def yX12_call : MethodName := ⟨RX12, "call", "(I)V"⟩
abbrev cX12_work : ByteArray := prog_14_method_79_code
def yX12_work : MethodName := ⟨RX12, "work", "(I)V"⟩
abbrev cX12_workFrame : ByteArray := prog_14_method_80_code
def yX12_workFrame : MethodName := ⟨RX12, "workFrame", "(I)V"⟩
abbrev cX12_workPair : ByteArray := prog_14_method_81_code
def yX12_workPair : MethodName := ⟨RX12, "workPair", "(II)V"⟩
abbrev cX12_member : ByteArray := prog_14_method_82_code
def yX12_member : MethodName := ⟨RX12, "member", "(II)I"⟩
abbrev cX12_workName : ByteArray := prog_14_method_83_code
def yX12_workName : MethodName := ⟨RX12, "workName", "(II)V"⟩
abbrev cX12_bind : ByteArray := prog_14_method_84_code
def yX12_bind : MethodName := ⟨RX12, "bind", "(II)V"⟩
abbrev cX12_membersOf : ByteArray := prog_14_method_85_code
def yX12_membersOf : MethodName := ⟨RX12, "membersOf", "(I)I"⟩
abbrev cX12_workSum : ByteArray := prog_14_method_86_code
def yX12_workSum : MethodName := ⟨RX12, "workSum", "(II)V"⟩
abbrev cX12_workJoined : ByteArray := prog_14_method_87_code
def yX12_workJoined : MethodName := ⟨RX12, "workJoined", "(II)V"⟩
abbrev cX12_workCompare : ByteArray := prog_14_method_88_code
def yX12_workCompare : MethodName := ⟨RX12, "workCompare", "(II)V"⟩
abbrev cX12_readPart : ByteArray := prog_14_method_89_code
def yX12_readPart : MethodName := ⟨RX12, "readPart", "()V"⟩
abbrev cX12_readOwn : ByteArray := prog_14_method_90_code
def yX12_readOwn : MethodName := ⟨RX12, "readOwn", "()V"⟩
abbrev cX12_declare : ByteArray := prog_14_method_91_code
def yX12_declare : MethodName := ⟨RX12, "declare", "(II)V"⟩
abbrev cX12_readPlaces : ByteArray := prog_14_method_92_code
def yX12_readPlaces : MethodName := ⟨RX12, "readPlaces", "()V"⟩
abbrev cX12_placeMembers : ByteArray := prog_14_method_93_code
def yX12_placeMembers : MethodName := ⟨RX12, "placeMembers", "()I"⟩
abbrev cX12_fresh : ByteArray := prog_14_method_94_code
def yX12_fresh : MethodName := ⟨RX12, "fresh", "()V"⟩
abbrev cX12_readDeclaration : ByteArray := prog_14_method_95_code
def yX12_readDeclaration : MethodName := ⟨RX12, "readDeclaration", "()V"⟩
abbrev cX12_readWhole : ByteArray := prog_14_method_96_code
def yX12_readWhole : MethodName := ⟨RX12, "readWhole", "()I"⟩
abbrev cX12_readSetOf : ByteArray := prog_14_method_97_code
def yX12_readSetOf : MethodName := ⟨RX12, "readSetOf", "()V"⟩
abbrev cX12_workNumber : ByteArray := prog_14_method_98_code
def yX12_workNumber : MethodName := ⟨RX12, "workNumber", "(I)V"⟩
abbrev cX12_readParam : ByteArray := prog_14_method_99_code
def yX12_readParam : MethodName := ⟨RX12, "readParam", "()V"⟩
abbrev cX12_bound : ByteArray := prog_14_method_100_code
def yX12_bound : MethodName := ⟨RX12, "bound", "(I)I"⟩
abbrev cX12_readVar : ByteArray := prog_14_method_101_code
def yX12_readVar : MethodName := ⟨RX12, "readVar", "()V"⟩
abbrev cX12_grow : ByteArray := prog_14_method_102_code
def yX12_grow : MethodName := ⟨RX12, "grow", "(II)V"⟩
abbrev cX12_readRow : ByteArray := prog_14_method_103_code
def yX12_readRow : MethodName := ⟨RX12, "readRow", "()V"⟩
abbrev cX12_doRow : ByteArray := prog_14_method_104_code
def yX12_doRow : MethodName := ⟨RX12, "doRow", "(IIII)V"⟩
abbrev cX12_keep : ByteArray := prog_14_method_105_code
def yX12_keep : MethodName := ⟨RX12, "keep", "(IIII)V"⟩
abbrev cX12_whole1 : ByteArray := prog_14_method_106_code
def yX12_whole1 : MethodName := ⟨RX12, "whole1", "(I)V"⟩
abbrev cX12_small : ByteArray := prog_14_method_107_code
def yX12_small : MethodName := ⟨RX12, "small", "(I)I"⟩
abbrev cX12_readDifferent : ByteArray := prog_14_method_108_code
def yX12_readDifferent : MethodName := ⟨RX12, "readDifferent", "()V"⟩
abbrev cX12_readGoal : ByteArray := prog_14_method_109_code
def yX12_readGoal : MethodName := ⟨RX12, "readGoal", "()V"⟩
abbrev cX12_read : ByteArray := prog_14_method_110_code
def yX12_read : MethodName := ⟨RX12, "read", "()I"⟩
abbrev cX12_wayRow : ByteArray := prog_14_method_111_code
def yX12_wayRow : MethodName := ⟨RX12, "wayRow", "(II)V"⟩
abbrev cX12_least : ByteArray := prog_14_method_112_code
def yX12_least : MethodName := ⟨RX12, "least", "(I)I"⟩
abbrev cX12_waysOf : ByteArray := prog_14_method_113_code
def yX12_waysOf : MethodName := ⟨RX12, "waysOf", "(I)V"⟩
abbrev cX12_scaleOf : ByteArray := prog_14_method_114_code
def yX12_scaleOf : MethodName := ⟨RX12, "scaleOf", "(I)V"⟩
abbrev cX12_goalNumber : ByteArray := prog_14_method_115_code
def yX12_goalNumber : MethodName := ⟨RX12, "goalNumber", "(II)V"⟩
abbrev cX12_solves : ByteArray := prog_14_method_116_code
def yX12_solves : MethodName := ⟨RX12, "solves", "(ZZ)Z"⟩
abbrev cX12_tryIt : ByteArray := prog_14_method_117_code
def yX12_tryIt : MethodName := ⟨RX12, "tryIt", "()V"⟩
abbrev cX12_goalOf : ByteArray := prog_14_method_118_code
def yX12_goalOf : MethodName := ⟨RX12, "goalOf", "(II)V"⟩
abbrev cX12_isBetter : ByteArray := prog_14_method_119_code
def yX12_isBetter : MethodName := ⟨RX12, "isBetter", "()Z"⟩
abbrev cX12_differ : ByteArray := prog_14_method_120_code
def yX12_differ : MethodName := ⟨RX12, "differ", "()Z"⟩
abbrev cX12_firstValues : ByteArray := prog_14_method_121_code
def yX12_firstValues : MethodName := ⟨RX12, "firstValues", "()V"⟩
abbrev cX12_nextValues : ByteArray := prog_14_method_122_code
def yX12_nextValues : MethodName := ⟨RX12, "nextValues", "()Z"⟩
abbrev cX12_firstWays : ByteArray := prog_14_method_123_code
def yX12_firstWays : MethodName := ⟨RX12, "firstWays", "()V"⟩
abbrev cX12_nextWays : ByteArray := prog_14_method_124_code
def yX12_nextWays : MethodName := ⟨RX12, "nextWays", "()Z"⟩
abbrev cX12_solve : ByteArray := prog_14_method_125_code
def yX12_solve : MethodName := ⟨RX12, "solve", "(Z)Z"⟩
abbrev cX12_take : ByteArray := prog_14_method_126_code
def yX12_take : MethodName := ⟨RX12, "take", "()V"⟩
abbrev cX12_counts : ByteArray := prog_14_method_127_code
def yX12_counts : MethodName := ⟨RX12, "counts", "()Z"⟩
abbrev cX12_count : ByteArray := prog_14_method_128_code
def yX12_count : MethodName := ⟨RX12, "count", "()I"⟩
abbrev cX12_counted : ByteArray := prog_14_method_129_code
def yX12_counted : MethodName := ⟨RX12, "counted", "(II)I"⟩
abbrev cX12_listNeeds : ByteArray := prog_14_method_130_code
def yX12_listNeeds : MethodName := ⟨RX12, "listNeeds", "()V"⟩
abbrev cX12_need1 : ByteArray := prog_14_method_131_code
def yX12_need1 : MethodName := ⟨RX12, "need1", "(II)V"⟩
abbrev cX12_needNumber : ByteArray := prog_14_method_132_code
def yX12_needNumber : MethodName := ⟨RX12, "needNumber", "(II)I"⟩
abbrev cX12_isEqual : ByteArray := prog_14_method_133_code
def yX12_isEqual : MethodName := ⟨RX12, "isEqual", "(I)Z"⟩
abbrev cX12_addsUp : ByteArray := prog_14_method_134_code
def yX12_addsUp : MethodName := ⟨RX12, "addsUp", "()Z"⟩
abbrev cX12_spread : ByteArray := prog_14_method_135_code
def yX12_spread : MethodName := ⟨RX12, "spread", "(IIII)V"⟩
abbrev cX12_proves : ByteArray := prog_14_method_136_code
def yX12_proves : MethodName := ⟨RX12, "proves", "()Z"⟩
abbrev cX12_prove : ByteArray := prog_14_method_137_code
def yX12_prove : MethodName := ⟨RX12, "prove", "()I"⟩
abbrev cX12_best1 : ByteArray := prog_14_method_138_code
def yX12_best1 : MethodName := ⟨RX12, "best1", "()V"⟩
abbrev cX12_shortBest : ByteArray := prog_14_method_139_code
def yX12_shortBest : MethodName := ⟨RX12, "shortBest", "()V"⟩
abbrev cX12_multipliers : ByteArray := prog_14_method_140_code
def yX12_multipliers : MethodName := ⟨RX12, "multipliers", "()V"⟩
abbrev cX12_need : ByteArray := prog_14_method_141_code
def yX12_need : MethodName := ⟨RX12, "need", "(II)I"⟩
abbrev cX12_say : ByteArray := prog_14_method_142_code
def yX12_say : MethodName := ⟨RX12, "say", "(I)V"⟩
abbrev cX12_sayNumber : ByteArray := prog_14_method_143_code
def yX12_sayNumber : MethodName := ⟨RX12, "sayNumber", "(I)V"⟩
abbrev cX12_sayBig : ByteArray := prog_14_method_144_code
def yX12_sayBig : MethodName := ⟨RX12, "sayBig", "(I)V"⟩
abbrev cX12_sayFraction : ByteArray := prog_14_method_145_code
def yX12_sayFraction : MethodName := ⟨RX12, "sayFraction", "(II)V"⟩
abbrev cX12_canTell : ByteArray := prog_14_method_146_code
def yX12_canTell : MethodName := ⟨RX12, "canTell", "(II)Z"⟩
abbrev cX12_value : ByteArray := prog_14_method_147_code
def yX12_value : MethodName := ⟨RX12, "value", "(I)I"⟩
abbrev cX12_best : ByteArray := prog_14_method_148_code
def yX12_best : MethodName := ⟨RX12, "best", "(I)I"⟩
abbrev cX12_way : ByteArray := prog_14_method_149_code
def yX12_way : MethodName := ⟨RX12, "way", "(I)I"⟩
abbrev cX12_multiplier : ByteArray := prog_14_method_150_code
def yX12_multiplier : MethodName := ⟨RX12, "multiplier", "(I)I"⟩
abbrev cX12_textLetter : ByteArray := prog_14_method_151_code
def yX12_textLetter : MethodName := ⟨RX12, "textLetter", "(I)I"⟩
abbrev cX12_sayText : ByteArray := prog_14_method_152_code
def yX12_sayText : MethodName := ⟨RX12, "sayText", "(II)V"⟩
abbrev cX12_sayPart : ByteArray := prog_14_method_153_code
def yX12_sayPart : MethodName := ⟨RX12, "sayPart", "(II)V"⟩
abbrev cX12_sayTerm : ByteArray := prog_14_method_154_code
def yX12_sayTerm : MethodName := ⟨RX12, "sayTerm", "(IIIZ)V"⟩
abbrev cX12_sayWay : ByteArray := prog_14_method_155_code
def yX12_sayWay : MethodName := ⟨RX12, "sayWay", "(I)V"⟩
abbrev cX12_sayGoal : ByteArray := prog_14_method_156_code
def yX12_sayGoal : MethodName := ⟨RX12, "sayGoal", "(I)V"⟩
abbrev cX12_endLine : ByteArray := prog_14_method_157_code
def yX12_endLine : MethodName := ⟨RX12, "endLine", "()V"⟩
abbrev cX12_write : ByteArray := prog_14_method_158_code
def yX12_write : MethodName := ⟨RX12, "write", "()I"⟩
abbrev cX12_letter : ByteArray := prog_14_method_159_code
def yX12_letter : MethodName := ⟨RX12, "letter", "(I)I"⟩
abbrev cX12_feed : ByteArray := prog_14_method_160_code
def yX12_feed : MethodName := ⟨RX12, "feed", "(IIIII)V"⟩
abbrev cX12_end : ByteArray := prog_14_method_161_code
def yX12_end : MethodName := ⟨RX12, "end", "(I)I"⟩
abbrev cX12_wipe : ByteArray := prog_14_method_162_code
def yX12_wipe : MethodName := ⟨RX12, "wipe", "()V"⟩
abbrev cX12_fault : ByteArray := prog_14_method_163_code
def yX12_fault : MethodName := ⟨RX12, "fault", "(I)I"⟩
abbrev cX12_variable : ByteArray := prog_14_method_164_code
def yX12_variable : MethodName := ⟨RX12, "variable", "(II)I"⟩
abbrev cX12_row : ByteArray := prog_14_method_165_code
def yX12_row : MethodName := ⟨RX12, "row", "(III)I"⟩
abbrev cX12_goal : ByteArray := prog_14_method_166_code
def yX12_goal : MethodName := ⟨RX12, "goal", "(IIZ)I"⟩
abbrev cX12_about : ByteArray := prog_14_method_167_code
def yX12_about : MethodName := ⟨RX12, "about", "(I)I"⟩
abbrev cX12_holder : ByteArray := prog_14_method_168_code
def yX12_holder : MethodName := ⟨RX12, "holder", "(I)I"⟩
abbrev cX12_isSet : ByteArray := prog_14_method_169_code
def yX12_isSet : MethodName := ⟨RX12, "isSet", "(I)Z"⟩
abbrev cX12_isHolder : ByteArray := prog_14_method_170_code
def yX12_isHolder : MethodName := ⟨RX12, "isHolder", "(I)Z"⟩
abbrev cX12_isRule : ByteArray := prog_14_method_171_code
def yX12_isRule : MethodName := ⟨RX12, "isRule", "(IIII)Z"⟩
abbrev cX12_rule : ByteArray := prog_14_method_172_code
def yX12_rule : MethodName := ⟨RX12, "rule", "(IIII)I"⟩
abbrev cX12_pair : ByteArray := prog_14_method_173_code
def yX12_pair : MethodName := ⟨RX12, "pair", "(II)Z"⟩
abbrev cX12_clear : ByteArray := prog_14_method_174_code
def yX12_clear : MethodName := ⟨RX12, "clear", "()V"⟩
abbrev cX12_ones : ByteArray := prog_14_method_175_code
def yX12_ones : MethodName := ⟨RX12, "ones", "(I)I"⟩
abbrev cX12_scope : ByteArray := prog_14_method_176_code
def yX12_scope : MethodName := ⟨RX12, "scope", "(I)I"⟩
abbrev cX12_canHold : ByteArray := prog_14_method_177_code
def yX12_canHold : MethodName := ⟨RX12, "canHold", "(I)Z"⟩
abbrev cX12_canDiffer : ByteArray := prog_14_method_178_code
def yX12_canDiffer : MethodName := ⟨RX12, "canDiffer", "(I)Z"⟩
abbrev cX12_finds : ByteArray := prog_14_method_179_code
def yX12_finds : MethodName := ⟨RX12, "finds", "(I)Z"⟩
abbrev cX12_move : ByteArray := prog_14_method_180_code
def yX12_move : MethodName := ⟨RX12, "move", "(II)V"⟩
abbrev cX12_canOrder : ByteArray := prog_14_method_181_code
def yX12_canOrder : MethodName := ⟨RX12, "canOrder", "(III)Z"⟩
abbrev cX12_canSum : ByteArray := prog_14_method_182_code
def yX12_canSum : MethodName := ⟨RX12, "canSum", "(III)Z"⟩
abbrev cX12_must : ByteArray := prog_14_method_183_code
def yX12_must : MethodName := ⟨RX12, "must", "(II)I"⟩
abbrev cX12_canPair : ByteArray := prog_14_method_184_code
def yX12_canPair : MethodName := ⟨RX12, "canPair", "(I)Z"⟩
abbrev cX12_supports : ByteArray := prog_14_method_185_code
def yX12_supports : MethodName := ⟨RX12, "supports", "(III)Z"⟩
abbrev cX12_leave : ByteArray := prog_14_method_186_code
def yX12_leave : MethodName := ⟨RX12, "leave", "()V"⟩
abbrev cX12_leaveAll : ByteArray := prog_14_method_187_code
def yX12_leaveAll : MethodName := ⟨RX12, "leaveAll", "()V"⟩
abbrev cX12_left : ByteArray := prog_14_method_188_code
def yX12_left : MethodName := ⟨RX12, "left", "(I)I"⟩
abbrev cX12_reason : ByteArray := prog_14_method_189_code
def yX12_reason : MethodName := ⟨RX12, "reason", "(II)I"⟩
abbrev cX12_keepsRule : ByteArray := prog_14_method_190_code
def yX12_keepsRule : MethodName := ⟨RX12, "keepsRule", "(I)Z"⟩
abbrev cX12_above : ByteArray := prog_14_method_191_code
def yX12_above : MethodName := ⟨RX12, "above", "(I)I"⟩
abbrev cX12_list : ByteArray := prog_14_method_192_code
def yX12_list : MethodName := ⟨RX12, "list", "()I"⟩
abbrev cX12_listing : ByteArray := prog_14_method_193_code
def yX12_listing : MethodName := ⟨RX12, "listing", "()I"⟩
abbrev cX12_listed : ByteArray := prog_14_method_194_code
def yX12_listed : MethodName := ⟨RX12, "listed", "(II)I"⟩
abbrev cX12_clause : ByteArray := prog_14_method_195_code
def yX12_clause : MethodName := ⟨RX12, "clause", "(III)I"⟩
abbrev cX12_unsay : ByteArray := prog_14_method_196_code
def yX12_unsay : MethodName := ⟨RX12, "unsay", "()Z"⟩
abbrev cX12_keeps : ByteArray := prog_14_method_197_code
def yX12_keeps : MethodName := ⟨RX12, "keeps", "(II)Z"⟩
abbrev cX12_cost : ByteArray := prog_14_method_198_code
def yX12_cost : MethodName := ⟨RX12, "cost", "(I)I"⟩
abbrev cX12_models : ByteArray := prog_14_method_199_code
def yX12_models : MethodName := ⟨RX12, "models", "(I)I"⟩
abbrev cX12_core : ByteArray := prog_14_method_200_code
def yX12_core : MethodName := ⟨RX12, "core", "()I"⟩
abbrev cX12_truth : ByteArray := prog_14_method_201_code
def yX12_truth : MethodName := ⟨RX12, "truth", "(I)I"⟩
abbrev cX12_isPlace : ByteArray := prog_14_method_202_code
def yX12_isPlace : MethodName := ⟨RX12, "isPlace", "(I)Z"⟩
abbrev cX12_arc : ByteArray := prog_14_method_203_code
def yX12_arc : MethodName := ⟨RX12, "arc", "(IIII)I"⟩
abbrev cX12_unarc : ByteArray := prog_14_method_204_code
def yX12_unarc : MethodName := ⟨RX12, "unarc", "()Z"⟩
abbrev cX12_areEnds : ByteArray := prog_14_method_205_code
def yX12_areEnds : MethodName := ⟨RX12, "areEnds", "(II)Z"⟩
abbrev cX12_relax : ByteArray := prog_14_method_206_code
def yX12_relax : MethodName := ⟨RX12, "relax", "(IIII)Z"⟩
abbrev cX12_send : ByteArray := prog_14_method_207_code
def yX12_send : MethodName := ⟨RX12, "send", "(III)I"⟩
abbrev cX12_push : ByteArray := prog_14_method_208_code
def yX12_push : MethodName := ⟨RX12, "push", "(III)I"⟩
abbrev cX12_greatest : ByteArray := prog_14_method_209_code
def yX12_greatest : MethodName := ⟨RX12, "greatest", "(II)I"⟩
abbrev cX12_cut : ByteArray := prog_14_method_210_code
def yX12_cut : MethodName := ⟨RX12, "cut", "(II)I"⟩
abbrev cX12_cheapest : ByteArray := prog_14_method_211_code
def yX12_cheapest : MethodName := ⟨RX12, "cheapest", "(III)I"⟩
abbrev cX12_path : ByteArray := prog_14_method_212_code
def yX12_path : MethodName := ⟨RX12, "path", "(III)I"⟩
abbrev cX12_follows : ByteArray := prog_14_method_213_code
def yX12_follows : MethodName := ⟨RX12, "follows", "(I)I"⟩
abbrev cX12_tree : ByteArray := prog_14_method_214_code
def yX12_tree : MethodName := ⟨RX12, "tree", "()J"⟩
abbrev cX12_link : ByteArray := prog_14_method_215_code
def yX12_link : MethodName := ⟨RX12, "link", "(II)I"⟩
abbrev cX12_tourCost : ByteArray := prog_14_method_216_code
def yX12_tourCost : MethodName := ⟨RX12, "tourCost", "(I)I"⟩
abbrev cX12_nextOrder : ByteArray := prog_14_method_217_code
def yX12_nextOrder : MethodName := ⟨RX12, "nextOrder", "(I)Z"⟩
abbrev cX12_tour : ByteArray := prog_14_method_218_code
def yX12_tour : MethodName := ⟨RX12, "tour", "(II)I"⟩
def RJ11 : String := "java/lang/Character"
def TJ11 : u_T := fun k => match k with
  | _ => ("", "", "", false)
def tyJ11 : Nat → FieldType := fun k => match k with
  | _ => .int
abbrev wsJ110 : List Cond := u_ws RJ11 TJ11 0
theorem nmJ11 : ∀ a, a < 0 → ∀ b, b < 0 → a ≠ b → (TJ11 a).2.1 ≠ (TJ11 b).2.1 := by decide +kernel
theorem tyJ11_ok : ∀ k, k < 0 → parseFieldDescriptor (TJ11 k).2.2.1 = some (tyJ11 k) := by decide +kernel
abbrev cJ11_isValidCodePoint_9a6ad : ByteArray := prog_15_method_11_code
def yJ11_isValidCodePoint_9a6ad : MethodName := ⟨RJ11, "isValidCodePoint", "(I)Z"⟩
abbrev cJ11_highSurrogate_5068e : ByteArray := prog_15_method_28_code
def yJ11_highSurrogate_5068e : MethodName := ⟨RJ11, "highSurrogate", "(I)C"⟩
abbrev cJ11_lowSurrogate_5068e : ByteArray := prog_15_method_29_code
def yJ11_lowSurrogate_5068e : MethodName := ⟨RJ11, "lowSurrogate", "(I)C"⟩
def RJx8e188 : String := "java/lang/Cloneable"
def TJx8e188 : u_T := fun k => match k with
  | _ => ("", "", "", false)
def tyJx8e188 : Nat → FieldType := fun k => match k with
  | _ => .int
abbrev wsJx8e1880 : List Cond := u_ws RJx8e188 TJx8e188 0
theorem nmJx8e188 : ∀ a, a < 0 → ∀ b, b < 0 → a ≠ b → (TJx8e188 a).2.1 ≠ (TJx8e188 b).2.1 := by decide +kernel
theorem tyJx8e188_ok : ∀ k, k < 0 → parseFieldDescriptor (TJx8e188 k).2.2.1 = some (tyJx8e188 k) := by decide +kernel
def RJ6 : String := "java/lang/Integer"
def TJ6 : u_T := fun k => match k with
  | _ => ("", "", "", false)
def tyJ6 : Nat → FieldType := fun k => match k with
  | _ => .int
abbrev wsJ60 : List Cond := u_ws RJ6 TJ6 0
theorem nmJ6 : ∀ a, a < 0 → ∀ b, b < 0 → a ≠ b → (TJ6 a).2.1 ≠ (TJ6 b).2.1 := by decide +kernel
theorem tyJ6_ok : ∀ k, k < 0 → parseFieldDescriptor (TJ6 k).2.2.1 = some (tyJ6 k) := by decide +kernel
abbrev cJ6_bitCount_0f7a4 : ByteArray := prog_21_method_49_code
def yJ6_bitCount_0f7a4 : MethodName := ⟨RJ6, "bitCount", "(I)I"⟩
def RJ13 : String := "java/lang/Long"
def TJ13 : u_T := fun k => match k with
  | _ => ("", "", "", false)
def tyJ13 : Nat → FieldType := fun k => match k with
  | _ => .int
abbrev wsJ130 : List Cond := u_ws RJ13 TJ13 0
theorem nmJ13 : ∀ a, a < 0 → ∀ b, b < 0 → a ≠ b → (TJ13 a).2.1 ≠ (TJ13 b).2.1 := by decide +kernel
theorem tyJ13_ok : ∀ k, k < 0 → parseFieldDescriptor (TJ13 k).2.2.1 = some (tyJ13 k) := by decide +kernel
abbrev cJ13_compare_74951 : ByteArray := prog_22_method_42_code
def yJ13_compare_74951 : MethodName := ⟨RJ13, "compare", "(JJ)I"⟩
def RJ9 : String := "java/lang/Math"
def TJ9 : u_T := fun k => match k with
  | _ => ("", "", "", false)
def tyJ9 : Nat → FieldType := fun k => match k with
  | _ => .int
abbrev wsJ90 : List Cond := u_ws RJ9 TJ9 0
theorem nmJ9 : ∀ a, a < 0 → ∀ b, b < 0 → a ≠ b → (TJ9 a).2.1 ≠ (TJ9 b).2.1 := by decide +kernel
theorem tyJ9_ok : ∀ k, k < 0 → parseFieldDescriptor (TJ9 k).2.2.1 = some (tyJ9 k) := by decide +kernel
abbrev cJ9_abs_067f4 : ByteArray := prog_23_method_61_code
def yJ9_abs_067f4 : MethodName := ⟨RJ9, "abs", "(J)J"⟩
abbrev cJ9_max_7cf53 : ByteArray := prog_23_method_65_code
def yJ9_max_7cf53 : MethodName := ⟨RJ9, "max", "(II)I"⟩
abbrev cJ9_min_7cf53 : ByteArray := prog_23_method_69_code
def yJ9_min_7cf53 : MethodName := ⟨RJ9, "min", "(II)I"⟩
def RJ0 : String := "java/lang/String"
def TJ0 : u_T := fun k => match k with
  | _ => ("", "", "", false)
def tyJ0 : Nat → FieldType := fun k => match k with
  | _ => .int
abbrev wsJ00 : List Cond := u_ws RJ0 TJ0 0
theorem nmJ0 : ∀ a, a < 0 → ∀ b, b < 0 → a ≠ b → (TJ0 a).2.1 ≠ (TJ0 b).2.1 := by decide +kernel
theorem tyJ0_ok : ∀ k, k < 0 → parseFieldDescriptor (TJ0 k).2.2.1 = some (tyJ0 k) := by decide +kernel
abbrev cJ0_length_8abf5 : ByteArray := prog_25_method_54_code
def yJ0_length_8abf5 : MethodName := ⟨RJ0, "length", "()I"⟩
abbrev cJ0_charAt_5068e : ByteArray := prog_25_method_56_code
def yJ0_charAt_5068e : MethodName := ⟨RJ0, "charAt", "(I)C"⟩
abbrev cJ0_indexOf_0f7a4 : ByteArray := prog_25_method_79_code
def yJ0_indexOf_0f7a4 : MethodName := ⟨RJ0, "indexOf", "(I)I"⟩
abbrev cJ0_indexOf_7cf53 : ByteArray := prog_25_method_80_code
def yJ0_indexOf_7cf53 : MethodName := ⟨RJ0, "indexOf", "(II)I"⟩
abbrev cJ0_coder_7d493 : ByteArray := prog_25_method_152_code
def yJ0_coder_7d493 : MethodName := ⟨RJ0, "coder", "()B"⟩
abbrev cJ0_isLatin1_aae02 : ByteArray := prog_25_method_154_code
def yJ0_isLatin1_aae02 : MethodName := ⟨RJ0, "isLatin1", "()Z"⟩
abbrev cJ0_checkIndex_df160 : ByteArray := prog_25_method_155_code
def yJ0_checkIndex_df160 : MethodName := ⟨RJ0, "checkIndex", "(II)V"⟩
abbrev cJ0_checkBoundsBeginEnd_23922 : ByteArray := prog_25_method_158_code
def yJ0_checkBoundsBeginEnd_23922 : MethodName := ⟨RJ0, "checkBoundsBeginEnd", "(III)V"⟩
def RJ1 : String := "java/lang/StringLatin1"
def TJ1 : u_T := fun k => match k with
  | _ => ("", "", "", false)
def tyJ1 : Nat → FieldType := fun k => match k with
  | _ => .int
abbrev wsJ10 : List Cond := u_ws RJ1 TJ1 0
theorem nmJ1 : ∀ a, a < 0 → ∀ b, b < 0 → a ≠ b → (TJ1 a).2.1 ≠ (TJ1 b).2.1 := by decide +kernel
theorem tyJ1_ok : ∀ k, k < 0 → parseFieldDescriptor (TJ1 k).2.2.1 = some (tyJ1 k) := by decide +kernel
abbrev cJ1_charAt_3b067 : ByteArray := prog_26_method_2_code
def yJ1_charAt_3b067 : MethodName := ⟨RJ1, "charAt", "([BI)C"⟩
abbrev cJ1_canEncode_9a6ad : ByteArray := prog_26_method_4_code
def yJ1_canEncode_9a6ad : MethodName := ⟨RJ1, "canEncode", "(I)Z"⟩
abbrev cJ1_indexOf_4cfef : ByteArray := prog_26_method_22_code
def yJ1_indexOf_4cfef : MethodName := ⟨RJ1, "indexOf", "([BIII)I"⟩
abbrev cJ1_indexOfChar_4cfef : ByteArray := prog_26_method_23_code
def yJ1_indexOfChar_4cfef : MethodName := ⟨RJ1, "indexOfChar", "([BIII)I"⟩
def RJ2 : String := "java/lang/StringUTF16"
def TJ2 : u_T := fun k => match k with
  | _ => ("", "", "", false)
def tyJ2 : Nat → FieldType := fun k => match k with
  | _ => .int
abbrev wsJ20 : List Cond := u_ws RJ2 TJ2 0
theorem nmJ2 : ∀ a, a < 0 → ∀ b, b < 0 → a ≠ b → (TJ2 a).2.1 ≠ (TJ2 b).2.1 := by decide +kernel
theorem tyJ2_ok : ∀ k, k < 0 → parseFieldDescriptor (TJ2 k).2.2.1 = some (tyJ2 k) := by decide +kernel
abbrev cJ2_getChar_3b067 : ByteArray := prog_27_method_5_code
def yJ2_getChar_3b067 : MethodName := ⟨RJ2, "getChar", "([BI)C"⟩
abbrev cJ2_length_9d52b : ByteArray := prog_27_method_6_code
def yJ2_length_9d52b : MethodName := ⟨RJ2, "length", "([B)I"⟩
abbrev cJ2_indexOf_4cfef : ByteArray := prog_27_method_40_code
def yJ2_indexOf_4cfef : MethodName := ⟨RJ2, "indexOf", "([BIII)I"⟩
abbrev cJ2_indexOfChar_4cfef : ByteArray := prog_27_method_47_code
def yJ2_indexOfChar_4cfef : MethodName := ⟨RJ2, "indexOfChar", "([BIII)I"⟩
abbrev cJ2_indexOfCharUnsafe_4cfef : ByteArray := prog_27_method_48_code
def yJ2_indexOfCharUnsafe_4cfef : MethodName := ⟨RJ2, "indexOfCharUnsafe", "([BIII)I"⟩
abbrev cJ2_indexOfSupplementary_4cfef : ByteArray := prog_27_method_49_code
def yJ2_indexOfSupplementary_4cfef : MethodName := ⟨RJ2, "indexOfSupplementary", "([BIII)I"⟩
abbrev cJ2_charAt_3b067 : ByteArray := prog_27_method_83_code
def yJ2_charAt_3b067 : MethodName := ⟨RJ2, "charAt", "([BI)C"⟩
abbrev cJ2_checkIndex_2214a : ByteArray := prog_27_method_91_code
def yJ2_checkIndex_2214a : MethodName := ⟨RJ2, "checkIndex", "(I[B)V"⟩
abbrev cJ2_checkBoundsBeginEnd_d044e : ByteArray := prog_27_method_93_code
def yJ2_checkBoundsBeginEnd_d044e : MethodName := ⟨RJ2, "checkBoundsBeginEnd", "(II[B)V"⟩
def RJ10 : String := "java/lang/System"
def TJ10 : u_T := fun k => match k with
  | _ => ("", "", "", false)
def tyJ10 : Nat → FieldType := fun k => match k with
  | _ => .int
abbrev wsJ100 : List Cond := u_ws RJ10 TJ10 0
theorem nmJ10 : ∀ a, a < 0 → ∀ b, b < 0 → a ≠ b → (TJ10 a).2.1 ≠ (TJ10 b).2.1 := by decide +kernel
theorem tyJ10_ok : ∀ k, k < 0 → parseFieldDescriptor (TJ10 k).2.2.1 = some (tyJ10 k) := by decide +kernel
def RJ7 : String := "java/util/Arrays"
def TJ7 : u_T := fun k => match k with
  | _ => ("", "", "", false)
def tyJ7 : Nat → FieldType := fun k => match k with
  | _ => .int
abbrev wsJ70 : List Cond := u_ws RJ7 TJ7 0
theorem nmJ7 : ∀ a, a < 0 → ∀ b, b < 0 → a ≠ b → (TJ7 a).2.1 ≠ (TJ7 b).2.1 := by decide +kernel
theorem tyJ7_ok : ∀ k, k < 0 → parseFieldDescriptor (TJ7 k).2.2.1 = some (tyJ7 k) := by decide +kernel
abbrev cJ7_fill_d0a16 : ByteArray := prog_30_method_101_code
def yJ7_fill_d0a16 : MethodName := ⟨RJ7, "fill", "([JJ)V"⟩
abbrev cJ7_fill_53178 : ByteArray := prog_30_method_103_code
def yJ7_fill_53178 : MethodName := ⟨RJ7, "fill", "([II)V"⟩
abbrev cJ7_copyOf_9075b : ByteArray := prog_30_method_121_code
def yJ7_copyOf_9075b : MethodName := ⟨RJ7, "copyOf", "([BI)[B"⟩
abbrev cJ7_copyOf_c38d5 : ByteArray := prog_30_method_124_code
def yJ7_copyOf_c38d5 : MethodName := ⟨RJ7, "copyOf", "([JI)[J"⟩
def RJ3 : String := "jdk/internal/util/Preconditions"
def TJ3 : u_T := fun k => match k with
  | _ => ("", "", "", false)
def tyJ3 : Nat → FieldType := fun k => match k with
  | _ => .int
abbrev wsJ30 : List Cond := u_ws RJ3 TJ3 0
theorem nmJ3 : ∀ a, a < 0 → ∀ b, b < 0 → a ≠ b → (TJ3 a).2.1 ≠ (TJ3 b).2.1 := by decide +kernel
theorem tyJ3_ok : ∀ k, k < 0 → parseFieldDescriptor (TJ3 k).2.2.1 = some (tyJ3 k) := by decide +kernel
abbrev cJ3_checkIndex_8e157 : ByteArray := prog_31_method_11_code
def yJ3_checkIndex_8e157 : MethodName := ⟨RJ3, "checkIndex", "(IILjava/util/function/BiFunction;)I"⟩
abbrev cJ3_checkFromToIndex_8c36e : ByteArray := prog_31_method_12_code
def yJ3_checkFromToIndex_8c36e : MethodName := ⟨RJ3, "checkFromToIndex", "(IIILjava/util/function/BiFunction;)I"⟩
def RL : String := "OptimaWorksLaw"
abbrev cL_read : ByteArray := method_3_code
def yL_read : MethodName := ⟨RL, "read", "(LOptimaWorks;[J)I"⟩
abbrev cL_variable : ByteArray := method_4_code
def yL_variable : MethodName := ⟨RL, "variable", "(LOptimaWorks;II[J)I"⟩
abbrev cL_row : ByteArray := method_5_code
def yL_row : MethodName := ⟨RL, "row", "(LOptimaWorks;III[J)I"⟩
abbrev cL_goal : ByteArray := method_6_code
def yL_goal : MethodName := ⟨RL, "goal", "(LOptimaWorks;IIZ[J)I"⟩
abbrev cL_write : ByteArray := method_7_code
def yL_write : MethodName := ⟨RL, "write", "(LOptimaWorks;[J)I"⟩
abbrev cL_solve : ByteArray := method_8_code
def yL_solve : MethodName := ⟨RL, "solve", "(LOptimaWorks;Z[J)I"⟩
abbrev cL_value : ByteArray := method_9_code
def yL_value : MethodName := ⟨RL, "value", "(LOptimaWorks;I[J)I"⟩
abbrev cL_best : ByteArray := method_10_code
def yL_best : MethodName := ⟨RL, "best", "(LOptimaWorks;I[J)I"⟩
abbrev cL_way : ByteArray := method_11_code
def yL_way : MethodName := ⟨RL, "way", "(LOptimaWorks;I[J)I"⟩
abbrev cL_count : ByteArray := method_12_code
def yL_count : MethodName := ⟨RL, "count", "(LOptimaWorks;[J)I"⟩
abbrev cL_counted : ByteArray := method_13_code
def yL_counted : MethodName := ⟨RL, "counted", "(LOptimaWorks;II[J)I"⟩
abbrev cL_prove : ByteArray := method_14_code
def yL_prove : MethodName := ⟨RL, "prove", "(LOptimaWorks;[J)I"⟩
abbrev cL_multiplier : ByteArray := method_15_code
def yL_multiplier : MethodName := ⟨RL, "multiplier", "(LOptimaWorks;I[J)I"⟩
abbrev cL_holder : ByteArray := method_16_code
def yL_holder : MethodName := ⟨RL, "holder", "(LOptimaWorks;I[J)I"⟩
abbrev cL_rule : ByteArray := method_17_code
def yL_rule : MethodName := ⟨RL, "rule", "(LOptimaWorks;IIII[J)I"⟩
abbrev cL_clause : ByteArray := method_18_code
def yL_clause : MethodName := ⟨RL, "clause", "(LOptimaWorks;III[J)I"⟩
abbrev cL_arc : ByteArray := method_19_code
def yL_arc : MethodName := ⟨RL, "arc", "(LOptimaWorks;IIII[J)I"⟩
abbrev cL_greatest : ByteArray := method_20_code
def yL_greatest : MethodName := ⟨RL, "greatest", "(LOptimaWorks;II[J)I"⟩
abbrev cL_cut : ByteArray := method_21_code
def yL_cut : MethodName := ⟨RL, "cut", "(LOptimaWorks;II[J)I"⟩
abbrev cL_cheapest : ByteArray := method_22_code
def yL_cheapest : MethodName := ⟨RL, "cheapest", "(LOptimaWorks;III[J)I"⟩
abbrev cL_path : ByteArray := method_23_code
def yL_path : MethodName := ⟨RL, "path", "(LOptimaWorks;III[J)I"⟩
abbrev cL_tour : ByteArray := method_24_code
def yL_tour : MethodName := ⟨RL, "tour", "(LOptimaWorks;II[J)I"⟩
abbrev cL_law : ByteArray := code
def yL_law : MethodName := ⟨RL, "law", "([I)Z"⟩
abbrev vwCl : List vw_C := [(RX0, TX0, 7), (RX1, TX1, 17), (RX2, TX2, 14), (RX3, TX3, 17), (RX4, TX4, 11), (RX5, TX5, 19), (RX6, TX6, 13), (RX7, TX7, 20), (RX8, TX8, 3), (RX9, TX9, 9), (RX10, TX10, 20), (RX11, TX11, 11), (RX12, TX12, 163)]
end
section
def wsX0_init : List Cond := .code yX0_init cX0_init 1 none :: ([.methodLink RX0 3 objectInit, .instanceMethod objectInit, .code objectInit ⟨#[0xb1]⟩ 1 none, .arrayClass .int, .fieldLink RX0 11 "OptimaWorks$ClauseDesk" "wants" "[I", .fieldLink RX0 15 "OptimaWorks$ClauseDesk" "wantsNot" "[I", .fieldLink RX0 18 "OptimaWorks$ClauseDesk" "weight" "[I", .fieldLink RX0 21 "OptimaWorks$ClauseDesk" "broken" "[I", .fieldLink RX0 24 "OptimaWorks$ClauseDesk" "loss" "[I"] ++ wsX00)
def wX0 (a : Nat → Nat) (k : Nat → ClassId) (h0 : Nat) : va_W := [(h0, .inr (0, [.int 0, .ref (a 0), .ref (a 1), .ref (a 2), .ref (a 3), .ref (a 4), .int 0])), ((a 0), .inl ((k 0), 24, .inl (fun _ => 0))), ((a 1), .inl ((k 1), 24, .inl (fun _ => 0))), ((a 2), .inl ((k 2), 24, .inl (fun _ => 0))), ((a 3), .inl ((k 3), 4096, .inl (fun _ => 0))), ((a 4), .inl ((k 4), 4096, .inl (fun _ => 0)))]
def tX0 (k : Nat → ClassId) : List (ClassId × FieldType) := [((k 0), .int), ((k 1), .int), ((k 2), .int), ((k 3), .int), ((k 4), .int)]
theorem dX0_init_0 : decode cX0_init 0 = .ok (.aload_n 0, 1) := by decide +kernel
theorem dX0_init_1 : decode cX0_init 1 = .ok (.invokespecial 3, 3) := by decide +kernel
theorem dX0_init_4 : decode cX0_init 4 = .ok (.aload_n 0, 1) := by decide +kernel
theorem dX0_init_5 : decode cX0_init 5 = .ok (.bipush 24, 2) := by decide +kernel
theorem dX0_init_7 : decode cX0_init 7 = .ok (.newarray .int, 2) := by decide +kernel
theorem dX0_init_9 : decode cX0_init 9 = .ok (.putfield 11, 3) := by decide +kernel
theorem dX0_init_12 : decode cX0_init 12 = .ok (.aload_n 0, 1) := by decide +kernel
theorem dX0_init_13 : decode cX0_init 13 = .ok (.bipush 24, 2) := by decide +kernel
theorem dX0_init_15 : decode cX0_init 15 = .ok (.newarray .int, 2) := by decide +kernel
theorem dX0_init_17 : decode cX0_init 17 = .ok (.putfield 15, 3) := by decide +kernel
theorem dX0_init_20 : decode cX0_init 20 = .ok (.aload_n 0, 1) := by decide +kernel
theorem dX0_init_21 : decode cX0_init 21 = .ok (.bipush 24, 2) := by decide +kernel
theorem dX0_init_23 : decode cX0_init 23 = .ok (.newarray .int, 2) := by decide +kernel
theorem dX0_init_25 : decode cX0_init 25 = .ok (.putfield 18, 3) := by decide +kernel
theorem dX0_init_28 : decode cX0_init 28 = .ok (.aload_n 0, 1) := by decide +kernel
theorem dX0_init_29 : decode cX0_init 29 = .ok (.sipush 4096, 3) := by decide +kernel
theorem dX0_init_32 : decode cX0_init 32 = .ok (.newarray .int, 2) := by decide +kernel
theorem dX0_init_34 : decode cX0_init 34 = .ok (.putfield 21, 3) := by decide +kernel
theorem dX0_init_37 : decode cX0_init 37 = .ok (.aload_n 0, 1) := by decide +kernel
theorem dX0_init_38 : decode cX0_init 38 = .ok (.sipush 4096, 3) := by decide +kernel
theorem dX0_init_41 : decode cX0_init 41 = .ok (.newarray .int, 2) := by decide +kernel
theorem dX0_init_43 : decode cX0_init 43 = .ok (.putfield 24, 3) := by decide +kernel
theorem dX0_init_46 : decode cX0_init 46 = .ok (.return_, 1) := by decide +kernel
theorem iX0_init_in0 : ∀ w ∈ wsX00, w ∈ wsX0_init := fun _ h => List.mem_cons_of_mem _ (List.mem_append_right _ h)
set_option maxHeartbeats 4000000 in
set_option maxRecDepth 100000 in
/-- ClauseDesk(): five rows of ints come -/
theorem c_X0_init (l : Launch) (dC : Nat → ClassId) (dI : Nat → Nat → Nat) (h0 : Nat) (sz : Nat) : Met l yX0_init wsX0_init ({ frames := 1, cells := 5, slots := 8264, locals := 12 }) (va_Pc [.ref h0] (fun U => U.heap.size = sz ∧ va_P (dC, dI) vwCl [(h0, .inr (0, [.int 0, .null, .null, .null, .null, .null, .int 0]))] U.heap ∧ va_K (dC, dI) vwCl [] U ∧ va_D (fun _ => True) [(h0, .inr (0, [.int 0, .null, .null, .null, .null, .null, .int 0]))])) (va_Qv (fun _ : (Nat → Nat) × (Nat → ClassId) => True) (fun u t => va_P (dC, dI) vwCl (wX0 u.1 u.2 h0) t.heap ∧ va_K (dC, dI) vwCl (tX0 u.2) t ∧ va_D (va_A [(h0, .inr (0, [.int 0, .null, .null, .null, .null, .null, .int 0]))] sz) (wX0 u.1 u.2 h0)) (va_A [(h0, .inr (0, [.int 0, .null, .null, .null, .null, .null, .int 0]))] sz)) 5 8264 (va_A [(h0, .inr (0, [.int 0, .null, .null, .null, .null, .null, .int 0]))] sz) := by
  refine Met.ofW (cc := cX0_init) (maxL := 1) (ret := none) (by decide) rfl ?_
  intro p e s m args below meth c s₁ B hml hv
  obtain ⟨rfl, hsz, hP, hK, hD0⟩ := hv
  have hx := B.exec
  have hb := B.bytes
  have hr := B.returns
  have hts := atoms_spec (ws := wsX0_init) B.pre
  have hown : s.vm.findClass RX0 = some m.cls := findClass_of_methodNamed B.named
  have hlocks := B.notSynchronized
  have hin : meth.name = "<init>" := (name_of_methodNamed B.named B.method).1
  subst hsz
  have hD := hD0.self (sz := s.heap.size)
  generalize hAe : va_A [(h0, .inr (0, [.int 0, .null, .null, .null, .null, .null, .int 0]))] s.heap.size = A at hD ⊢
  have hA : ∀ q : Nat, s.heap.size ≤ q → A q := fun q h => by rw [← hAe]; exact Or.inr h
  have hS : va_S A s.heap s.heap [] := va_S.rf
  have hP : va_P (dC, dI) vwCl [(h0, .inr (0, [.int 0, .null, .null, .null, .null, .null, .int 0]))] s.heap := hP
  have hl := lv_entry ([.ref h0]) (n := 1) (Nat.le_of_ble_eq_true rfl)
  rw [lg_entry_eq]
  generalize (lg_sl ([.ref h0]) ++ List.replicate (1 - (lg_sl ([.ref h0])).length) Slot.unset).toArray = ls at hl ⊢
  have hl : lv_has ls 1 [(0, .ref h0)] := hl
  refine lv_aload_n hx hb dX0_init_0 rfl (lv_at hl 0 rfl) ?_
  refine W.objInit hx hb hown (hts (.methodLink RX0 3 objectInit) (by decide +kernel)) (hts (.instanceMethod objectInit) (by decide +kernel)) (hts (.code objectInit ⟨#[0xb1]⟩ 1 none) (by decide +kernel)) rfl (by rw [hml]; exact hl.1) rfl dX0_init_1 (by decide +kernel) (Nat.le_of_ble_eq_true rfl) ?_
  refine W.eq (g2 := F0 m 4 ls []) rfl ?_
  refine lv_aload_n hx hb dX0_init_4 rfl (lv_at hl 0 rfl) ?_
  refine lv_bipush (v := 24) hx hb dX0_init_5 (by decide) ?_
  refine va_newa (atype := .int) (ty := .int) (N' := 24) (a0 := (24, .inl (fun _ => 0))) hx hb (hts (.arrayClass .int) (by decide +kernel)) rfl hK hP hD hS hA (fun _ => rfl) (by decide) (by decide) (by decide +kernel) (by decide +kernel) (by decide +kernel) dX0_init_7 (fun q7 k7 H hK hP hD hS => ?_)
  have hP : va_P (dC, dI) vwCl [(h0, .inr (0, [.int 0, .null, .null, .null, .null, .null, .int 0])), (q7, .inl (k7, 24, .inl (fun _ => 0)))] H := hP
  have hD : va_D A [(h0, .inr (0, [.int 0, .null, .null, .null, .null, .null, .int 0])), (q7, .inl (k7, 24, .inl (fun _ => 0)))] := hD
  have hK : va_K (dC, dI) vwCl [(k7, .int)] s := hK
  refine W.widen (k := 1) (n := 24) (by decide +kernel) (by decide +kernel) ?_
  refine va_putF (D := (dC, dI)) (ci := 0) (v := .ref q7) (ty := .array .int) (C := RX0) (T := TX0) (N := 7) hx hb hts iX0_init_in0 tyX0 tyX0_ok nmX0 hown hK hP hD hS 0 rfl rfl 1 (by decide) (hts (.fieldLink RX0 11 "OptimaWorks$ClauseDesk" "wants" "[I") (by decide +kernel)) (fun _ h9 => h9) rfl hin rfl (by decide +kernel) rfl rfl (Nat.le_of_ble_eq_true rfl) dX0_init_9 (fun H locs hP hD hS => ?_)
  have hP : va_P (dC, dI) vwCl [(h0, .inr (0, [.int 0, .ref q7, .null, .null, .null, .null, .int 0])), (q7, .inl (k7, 24, .inl (fun _ => 0)))] H := hP
  have hD : va_D A [(h0, .inr (0, [.int 0, .ref q7, .null, .null, .null, .null, .int 0])), (q7, .inl (k7, 24, .inl (fun _ => 0)))] := hD
  refine lv_aload_n hx hb dX0_init_12 rfl (lv_at hl 0 rfl) ?_
  refine lv_bipush (v := 24) hx hb dX0_init_13 (by decide) ?_
  refine va_newa (atype := .int) (ty := .int) (N' := 24) (a0 := (24, .inl (fun _ => 0))) hx hb (hts (.arrayClass .int) (by decide +kernel)) rfl hK hP hD hS hA (fun _ => rfl) (by decide) (by decide) (by decide +kernel) (by decide +kernel) (by decide +kernel) dX0_init_15 (fun q15 k15 H hK hP hD hS => ?_)
  have hP : va_P (dC, dI) vwCl [(h0, .inr (0, [.int 0, .ref q7, .null, .null, .null, .null, .int 0])), (q7, .inl (k7, 24, .inl (fun _ => 0))), (q15, .inl (k15, 24, .inl (fun _ => 0)))] H := hP
  have hD : va_D A [(h0, .inr (0, [.int 0, .ref q7, .null, .null, .null, .null, .int 0])), (q7, .inl (k7, 24, .inl (fun _ => 0))), (q15, .inl (k15, 24, .inl (fun _ => 0)))] := hD
  have hK : va_K (dC, dI) vwCl [(k7, .int), (k15, .int)] s := hK
  refine W.widen (k := 2) (n := 48) (by decide +kernel) (by decide +kernel) ?_
  refine va_putF (D := (dC, dI)) (ci := 0) (v := .ref q15) (ty := .array .int) (C := RX0) (T := TX0) (N := 7) hx hb hts iX0_init_in0 tyX0 tyX0_ok nmX0 hown hK hP hD hS 0 rfl rfl 2 (by decide) (hts (.fieldLink RX0 15 "OptimaWorks$ClauseDesk" "wantsNot" "[I") (by decide +kernel)) (fun _ h9 => h9) rfl hin rfl (by decide +kernel) rfl rfl (Nat.le_of_ble_eq_true rfl) dX0_init_17 (fun H locs hP hD hS => ?_)
  have hP : va_P (dC, dI) vwCl [(h0, .inr (0, [.int 0, .ref q7, .ref q15, .null, .null, .null, .int 0])), (q7, .inl (k7, 24, .inl (fun _ => 0))), (q15, .inl (k15, 24, .inl (fun _ => 0)))] H := hP
  have hD : va_D A [(h0, .inr (0, [.int 0, .ref q7, .ref q15, .null, .null, .null, .int 0])), (q7, .inl (k7, 24, .inl (fun _ => 0))), (q15, .inl (k15, 24, .inl (fun _ => 0)))] := hD
  refine lv_aload_n hx hb dX0_init_20 rfl (lv_at hl 0 rfl) ?_
  refine lv_bipush (v := 24) hx hb dX0_init_21 (by decide) ?_
  refine va_newa (atype := .int) (ty := .int) (N' := 24) (a0 := (24, .inl (fun _ => 0))) hx hb (hts (.arrayClass .int) (by decide +kernel)) rfl hK hP hD hS hA (fun _ => rfl) (by decide) (by decide) (by decide +kernel) (by decide +kernel) (by decide +kernel) dX0_init_23 (fun q23 k23 H hK hP hD hS => ?_)
  have hP : va_P (dC, dI) vwCl [(h0, .inr (0, [.int 0, .ref q7, .ref q15, .null, .null, .null, .int 0])), (q7, .inl (k7, 24, .inl (fun _ => 0))), (q15, .inl (k15, 24, .inl (fun _ => 0))), (q23, .inl (k23, 24, .inl (fun _ => 0)))] H := hP
  have hD : va_D A [(h0, .inr (0, [.int 0, .ref q7, .ref q15, .null, .null, .null, .int 0])), (q7, .inl (k7, 24, .inl (fun _ => 0))), (q15, .inl (k15, 24, .inl (fun _ => 0))), (q23, .inl (k23, 24, .inl (fun _ => 0)))] := hD
  have hK : va_K (dC, dI) vwCl [(k7, .int), (k15, .int), (k23, .int)] s := hK
  refine W.widen (k := 3) (n := 72) (by decide +kernel) (by decide +kernel) ?_
  refine va_putF (D := (dC, dI)) (ci := 0) (v := .ref q23) (ty := .array .int) (C := RX0) (T := TX0) (N := 7) hx hb hts iX0_init_in0 tyX0 tyX0_ok nmX0 hown hK hP hD hS 0 rfl rfl 3 (by decide) (hts (.fieldLink RX0 18 "OptimaWorks$ClauseDesk" "weight" "[I") (by decide +kernel)) (fun _ h9 => h9) rfl hin rfl (by decide +kernel) rfl rfl (Nat.le_of_ble_eq_true rfl) dX0_init_25 (fun H locs hP hD hS => ?_)
  have hP : va_P (dC, dI) vwCl [(h0, .inr (0, [.int 0, .ref q7, .ref q15, .ref q23, .null, .null, .int 0])), (q7, .inl (k7, 24, .inl (fun _ => 0))), (q15, .inl (k15, 24, .inl (fun _ => 0))), (q23, .inl (k23, 24, .inl (fun _ => 0)))] H := hP
  have hD : va_D A [(h0, .inr (0, [.int 0, .ref q7, .ref q15, .ref q23, .null, .null, .int 0])), (q7, .inl (k7, 24, .inl (fun _ => 0))), (q15, .inl (k15, 24, .inl (fun _ => 0))), (q23, .inl (k23, 24, .inl (fun _ => 0)))] := hD
  refine lv_aload_n hx hb dX0_init_28 rfl (lv_at hl 0 rfl) ?_
  refine lv_sipush (v := 4096) hx hb dX0_init_29 (by decide) ?_
  refine va_newa (atype := .int) (ty := .int) (N' := 4096) (a0 := (4096, .inl (fun _ => 0))) hx hb (hts (.arrayClass .int) (by decide +kernel)) rfl hK hP hD hS hA (fun _ => rfl) (by decide) (by decide) (by decide +kernel) (by decide +kernel) (by decide +kernel) dX0_init_32 (fun q32 k32 H hK hP hD hS => ?_)
  have hP : va_P (dC, dI) vwCl [(h0, .inr (0, [.int 0, .ref q7, .ref q15, .ref q23, .null, .null, .int 0])), (q7, .inl (k7, 24, .inl (fun _ => 0))), (q15, .inl (k15, 24, .inl (fun _ => 0))), (q23, .inl (k23, 24, .inl (fun _ => 0))), (q32, .inl (k32, 4096, .inl (fun _ => 0)))] H := hP
  have hD : va_D A [(h0, .inr (0, [.int 0, .ref q7, .ref q15, .ref q23, .null, .null, .int 0])), (q7, .inl (k7, 24, .inl (fun _ => 0))), (q15, .inl (k15, 24, .inl (fun _ => 0))), (q23, .inl (k23, 24, .inl (fun _ => 0))), (q32, .inl (k32, 4096, .inl (fun _ => 0)))] := hD
  have hK : va_K (dC, dI) vwCl [(k7, .int), (k15, .int), (k23, .int), (k32, .int)] s := hK
  refine W.widen (k := 4) (n := 4168) (by decide +kernel) (by decide +kernel) ?_
  refine va_putF (D := (dC, dI)) (ci := 0) (v := .ref q32) (ty := .array .int) (C := RX0) (T := TX0) (N := 7) hx hb hts iX0_init_in0 tyX0 tyX0_ok nmX0 hown hK hP hD hS 0 rfl rfl 4 (by decide) (hts (.fieldLink RX0 21 "OptimaWorks$ClauseDesk" "broken" "[I") (by decide +kernel)) (fun _ h9 => h9) rfl hin rfl (by decide +kernel) rfl rfl (Nat.le_of_ble_eq_true rfl) dX0_init_34 (fun H locs hP hD hS => ?_)
  have hP : va_P (dC, dI) vwCl [(h0, .inr (0, [.int 0, .ref q7, .ref q15, .ref q23, .ref q32, .null, .int 0])), (q7, .inl (k7, 24, .inl (fun _ => 0))), (q15, .inl (k15, 24, .inl (fun _ => 0))), (q23, .inl (k23, 24, .inl (fun _ => 0))), (q32, .inl (k32, 4096, .inl (fun _ => 0)))] H := hP
  have hD : va_D A [(h0, .inr (0, [.int 0, .ref q7, .ref q15, .ref q23, .ref q32, .null, .int 0])), (q7, .inl (k7, 24, .inl (fun _ => 0))), (q15, .inl (k15, 24, .inl (fun _ => 0))), (q23, .inl (k23, 24, .inl (fun _ => 0))), (q32, .inl (k32, 4096, .inl (fun _ => 0)))] := hD
  refine lv_aload_n hx hb dX0_init_37 rfl (lv_at hl 0 rfl) ?_
  refine lv_sipush (v := 4096) hx hb dX0_init_38 (by decide) ?_
  refine va_newa (atype := .int) (ty := .int) (N' := 4096) (a0 := (4096, .inl (fun _ => 0))) hx hb (hts (.arrayClass .int) (by decide +kernel)) rfl hK hP hD hS hA (fun _ => rfl) (by decide) (by decide) (by decide +kernel) (by decide +kernel) (by decide +kernel) dX0_init_41 (fun q41 k41 H hK hP hD hS => ?_)
  have hP : va_P (dC, dI) vwCl [(h0, .inr (0, [.int 0, .ref q7, .ref q15, .ref q23, .ref q32, .null, .int 0])), (q7, .inl (k7, 24, .inl (fun _ => 0))), (q15, .inl (k15, 24, .inl (fun _ => 0))), (q23, .inl (k23, 24, .inl (fun _ => 0))), (q32, .inl (k32, 4096, .inl (fun _ => 0))), (q41, .inl (k41, 4096, .inl (fun _ => 0)))] H := hP
  have hD : va_D A [(h0, .inr (0, [.int 0, .ref q7, .ref q15, .ref q23, .ref q32, .null, .int 0])), (q7, .inl (k7, 24, .inl (fun _ => 0))), (q15, .inl (k15, 24, .inl (fun _ => 0))), (q23, .inl (k23, 24, .inl (fun _ => 0))), (q32, .inl (k32, 4096, .inl (fun _ => 0))), (q41, .inl (k41, 4096, .inl (fun _ => 0)))] := hD
  have hK : va_K (dC, dI) vwCl [(k7, .int), (k15, .int), (k23, .int), (k32, .int), (k41, .int)] s := hK
  refine W.widen (k := 5) (n := 8264) (by decide +kernel) (by decide +kernel) ?_
  refine va_putF (D := (dC, dI)) (ci := 0) (v := .ref q41) (ty := .array .int) (C := RX0) (T := TX0) (N := 7) hx hb hts iX0_init_in0 tyX0 tyX0_ok nmX0 hown hK hP hD hS 0 rfl rfl 5 (by decide) (hts (.fieldLink RX0 24 "OptimaWorks$ClauseDesk" "loss" "[I") (by decide +kernel)) (fun _ h9 => h9) rfl hin rfl (by decide +kernel) rfl rfl (Nat.le_of_ble_eq_true rfl) dX0_init_43 (fun H locs hP hD hS => ?_)
  have hP : va_P (dC, dI) vwCl [(h0, .inr (0, [.int 0, .ref q7, .ref q15, .ref q23, .ref q32, .ref q41, .int 0])), (q7, .inl (k7, 24, .inl (fun _ => 0))), (q15, .inl (k15, 24, .inl (fun _ => 0))), (q23, .inl (k23, 24, .inl (fun _ => 0))), (q32, .inl (k32, 4096, .inl (fun _ => 0))), (q41, .inl (k41, 4096, .inl (fun _ => 0)))] H := hP
  have hD : va_D A [(h0, .inr (0, [.int 0, .ref q7, .ref q15, .ref q23, .ref q32, .ref q41, .int 0])), (q7, .inl (k7, 24, .inl (fun _ => 0))), (q15, .inl (k15, 24, .inl (fun _ => 0))), (q23, .inl (k23, 24, .inl (fun _ => 0))), (q32, .inl (k32, 4096, .inl (fun _ => 0))), (q41, .inl (k41, 4096, .inl (fun _ => 0)))] := hD
  refine W.widen (k := 5) (n := 8264) (by decide +kernel) (by decide +kernel) ?_
  exact W.vret hx hb hr (fun t ht hW => ⟨⟨((fun n => [q7, q15, q23, q32, q41].getD n 0), (fun n => [k7, k15, k23, k32, k41].getD n k7)), rfl, trivial, by rw [ht]; exact hP, va_K.moved hW.alike hK, hD⟩, hS.F ht⟩) hS.2.2 dX0_init_46
def wsX9_init : List Cond := .code yX9_init cX9_init 1 none :: ([.methodLink RX9 3 objectInit, .instanceMethod objectInit, .code objectInit ⟨#[0xb1]⟩ 1 none, .arrayClass .byte, .fieldLink RX9 9 "OptimaWorks$Words" "tape" "[B", .fieldLink RX9 15 "OptimaWorks$Words" "place" "I"] ++ wsX90)
def wX9 (a : Nat → Nat) (k : Nat → ClassId) (h0 : Nat) : va_W := [(h0, .inr (9, [.ref (a 0), .int 0, .int 0, .int (-1), .int 0, .int 0, .int 0, .long 0, .int 0])), ((a 0), .inl ((k 0), 64, .inl (fun _ => 0)))]
def tX9 (k : Nat → ClassId) : List (ClassId × FieldType) := [((k 0), .byte)]
theorem dX9_init_0 : decode cX9_init 0 = .ok (.aload_n 0, 1) := by decide +kernel
theorem dX9_init_1 : decode cX9_init 1 = .ok (.invokespecial 3, 3) := by decide +kernel
theorem dX9_init_4 : decode cX9_init 4 = .ok (.aload_n 0, 1) := by decide +kernel
theorem dX9_init_5 : decode cX9_init 5 = .ok (.bipush 64, 2) := by decide +kernel
theorem dX9_init_7 : decode cX9_init 7 = .ok (.newarray .byte, 2) := by decide +kernel
theorem dX9_init_9 : decode cX9_init 9 = .ok (.putfield 9, 3) := by decide +kernel
theorem dX9_init_12 : decode cX9_init 12 = .ok (.aload_n 0, 1) := by decide +kernel
theorem dX9_init_13 : decode cX9_init 13 = .ok (.iconst (-1), 1) := by decide +kernel
theorem dX9_init_14 : decode cX9_init 14 = .ok (.putfield 15, 3) := by decide +kernel
theorem dX9_init_17 : decode cX9_init 17 = .ok (.return_, 1) := by decide +kernel
theorem iX9_init_in9 : ∀ w ∈ wsX90, w ∈ wsX9_init := fun _ h => List.mem_cons_of_mem _ (List.mem_append_right _ h)
set_option maxHeartbeats 4000000 in
set_option maxRecDepth 100000 in
/-- Words(): the tape of 64 bytes; no place -/
theorem c_X9_init (l : Launch) (dC : Nat → ClassId) (dI : Nat → Nat → Nat) (h0 : Nat) (sz : Nat) : Met l yX9_init wsX9_init ({ frames := 1, cells := 1, slots := 64, locals := 12 }) (va_Pc [.ref h0] (fun U => U.heap.size = sz ∧ va_P (dC, dI) vwCl [(h0, .inr (9, [.null, .int 0, .int 0, .int 0, .int 0, .int 0, .int 0, .long 0, .int 0]))] U.heap ∧ va_K (dC, dI) vwCl [] U ∧ va_D (fun _ => True) [(h0, .inr (9, [.null, .int 0, .int 0, .int 0, .int 0, .int 0, .int 0, .long 0, .int 0]))])) (va_Qv (fun _ : (Nat → Nat) × (Nat → ClassId) => True) (fun u t => va_P (dC, dI) vwCl (wX9 u.1 u.2 h0) t.heap ∧ va_K (dC, dI) vwCl (tX9 u.2) t ∧ va_D (va_A [(h0, .inr (9, [.null, .int 0, .int 0, .int 0, .int 0, .int 0, .int 0, .long 0, .int 0]))] sz) (wX9 u.1 u.2 h0)) (va_A [(h0, .inr (9, [.null, .int 0, .int 0, .int 0, .int 0, .int 0, .int 0, .long 0, .int 0]))] sz)) 1 64 (va_A [(h0, .inr (9, [.null, .int 0, .int 0, .int 0, .int 0, .int 0, .int 0, .long 0, .int 0]))] sz) := by
  refine Met.ofW (cc := cX9_init) (maxL := 1) (ret := none) (by decide) rfl ?_
  intro p e s m args below meth c s₁ B hml hv
  obtain ⟨rfl, hsz, hP, hK, hD0⟩ := hv
  have hx := B.exec
  have hb := B.bytes
  have hr := B.returns
  have hts := atoms_spec (ws := wsX9_init) B.pre
  have hown : s.vm.findClass RX9 = some m.cls := findClass_of_methodNamed B.named
  have hlocks := B.notSynchronized
  have hin : meth.name = "<init>" := (name_of_methodNamed B.named B.method).1
  subst hsz
  have hD := hD0.self (sz := s.heap.size)
  generalize hAe : va_A [(h0, .inr (9, [.null, .int 0, .int 0, .int 0, .int 0, .int 0, .int 0, .long 0, .int 0]))] s.heap.size = A at hD ⊢
  have hA : ∀ q : Nat, s.heap.size ≤ q → A q := fun q h => by rw [← hAe]; exact Or.inr h
  have hS : va_S A s.heap s.heap [] := va_S.rf
  have hP : va_P (dC, dI) vwCl [(h0, .inr (9, [.null, .int 0, .int 0, .int 0, .int 0, .int 0, .int 0, .long 0, .int 0]))] s.heap := hP
  have hl := lv_entry ([.ref h0]) (n := 1) (Nat.le_of_ble_eq_true rfl)
  rw [lg_entry_eq]
  generalize (lg_sl ([.ref h0]) ++ List.replicate (1 - (lg_sl ([.ref h0])).length) Slot.unset).toArray = ls at hl ⊢
  have hl : lv_has ls 1 [(0, .ref h0)] := hl
  refine lv_aload_n hx hb dX9_init_0 rfl (lv_at hl 0 rfl) ?_
  refine W.objInit hx hb hown (hts (.methodLink RX9 3 objectInit) (by decide +kernel)) (hts (.instanceMethod objectInit) (by decide +kernel)) (hts (.code objectInit ⟨#[0xb1]⟩ 1 none) (by decide +kernel)) rfl (by rw [hml]; exact hl.1) rfl dX9_init_1 (by decide +kernel) (Nat.le_of_ble_eq_true rfl) ?_
  refine W.eq (g2 := F0 m 4 ls []) rfl ?_
  refine lv_aload_n hx hb dX9_init_4 rfl (lv_at hl 0 rfl) ?_
  refine lv_bipush (v := 64) hx hb dX9_init_5 (by decide) ?_
  refine va_newa (atype := .byte) (ty := .byte) (N' := 64) (a0 := (64, .inl (fun _ => 0))) hx hb (hts (.arrayClass .byte) (by decide +kernel)) rfl hK hP hD hS hA (fun _ => rfl) (by decide) (by decide) (by decide +kernel) (by decide +kernel) (by decide +kernel) dX9_init_7 (fun q7 k7 H hK hP hD hS => ?_)
  have hP : va_P (dC, dI) vwCl [(h0, .inr (9, [.null, .int 0, .int 0, .int 0, .int 0, .int 0, .int 0, .long 0, .int 0])), (q7, .inl (k7, 64, .inl (fun _ => 0)))] H := hP
  have hD : va_D A [(h0, .inr (9, [.null, .int 0, .int 0, .int 0, .int 0, .int 0, .int 0, .long 0, .int 0])), (q7, .inl (k7, 64, .inl (fun _ => 0)))] := hD
  have hK : va_K (dC, dI) vwCl [(k7, .byte)] s := hK
  refine W.widen (k := 1) (n := 64) (by decide +kernel) (by decide +kernel) ?_
  refine va_put (D := (dC, dI)) (ci := 9) (v := .ref q7) (ty := .array .byte) (C := RX9) (T := TX9) (N := 9) hx hb hts iX9_init_in9 tyX9 tyX9_ok nmX9 hown hK hP hD hS 0 rfl rfl 0 (by decide) (hts (.fieldLink RX9 9 "OptimaWorks$Words" "tape" "[B") (by decide +kernel)) (fun _ h9 => h9) rfl (by decide +kernel) rfl rfl (Nat.le_of_ble_eq_true rfl) dX9_init_9 (fun H locs hP hD hS => ?_)
  have hP : va_P (dC, dI) vwCl [(h0, .inr (9, [.ref q7, .int 0, .int 0, .int 0, .int 0, .int 0, .int 0, .long 0, .int 0])), (q7, .inl (k7, 64, .inl (fun _ => 0)))] H := hP
  have hD : va_D A [(h0, .inr (9, [.ref q7, .int 0, .int 0, .int 0, .int 0, .int 0, .int 0, .long 0, .int 0])), (q7, .inl (k7, 64, .inl (fun _ => 0)))] := hD
  refine lv_aload_n hx hb dX9_init_12 rfl (lv_at hl 0 rfl) ?_
  refine lv_iconst (v := (-1)) hx hb dX9_init_13 (by decide) ?_
  refine va_put (D := (dC, dI)) (ci := 9) (v := .int (-1)) (ty := .int) (C := RX9) (T := TX9) (N := 9) hx hb hts iX9_init_in9 tyX9 tyX9_ok nmX9 hown hK hP hD hS 0 rfl rfl 3 (by decide) (hts (.fieldLink RX9 15 "OptimaWorks$Words" "place" "I") (by decide +kernel)) (fun _ h9 => h9) rfl (by decide +kernel) rfl rfl (Nat.le_of_ble_eq_true rfl) dX9_init_14 (fun H locs hP hD hS => ?_)
  have hP : va_P (dC, dI) vwCl [(h0, .inr (9, [.ref q7, .int 0, .int 0, .int (-1), .int 0, .int 0, .int 0, .long 0, .int 0])), (q7, .inl (k7, 64, .inl (fun _ => 0)))] H := hP
  have hD : va_D A [(h0, .inr (9, [.ref q7, .int 0, .int 0, .int (-1), .int 0, .int 0, .int 0, .long 0, .int 0])), (q7, .inl (k7, 64, .inl (fun _ => 0)))] := hD
  refine W.widen (k := 1) (n := 64) (by decide +kernel) (by decide +kernel) ?_
  exact W.vret hx hb hr (fun t ht hW => ⟨⟨((fun n => [q7].getD n 0), (fun n => [k7].getD n k7)), rfl, trivial, by rw [ht]; exact hP, va_K.moved hW.alike hK, hD⟩, hS.F ht⟩) hS.2.2 dX9_init_17
def wsX1_init : List Cond := .code yX1_init cX1_init 1 none :: ([.methodLink RX1 3 objectInit, .instanceMethod objectInit, .code objectInit ⟨#[0xb1]⟩ 1 none, .arrayClass .int, .fieldLink RX1 9 "OptimaWorks$Model" "from" "[I", .fieldLink RX1 13 "OptimaWorks$Model" "to" "[I", .arrayClass .boolean, .fieldLink RX1 16 "OptimaWorks$Model" "whole" "[Z", .fieldLink RX1 20 "OptimaWorks$Model" "ways" "[I", .fieldLink RX1 23 "OptimaWorks$Model" "plainRow" "[I", .fieldLink RX1 26 "OptimaWorks$Model" "kept" "[I", .fieldLink RX1 29 "OptimaWorks$Model" "goalOver" "[I", .fieldLink RX1 32 "OptimaWorks$Model" "goalUnder" "[I", .fieldLink RX1 35 "OptimaWorks$Model" "goalMax" "[Z", .fieldLink RX1 38 "OptimaWorks$Model" "different" "[I"] ++ wsX10)
def wX1 (a : Nat → Nat) (k : Nat → ClassId) (h0 : Nat) : va_W := [(h0, .inr (1, [.int 0, .int 0, .int 0, .int 0, .int 0, .int 0, .ref (a 0), .ref (a 1), .ref (a 2), .ref (a 3), .int 0, .ref (a 4), .ref (a 5), .ref (a 6), .ref (a 7), .ref (a 8), .ref (a 9)])), ((a 0), .inl ((k 0), 8, .inl (fun _ => 0))), ((a 1), .inl ((k 1), 8, .inl (fun _ => 0))), ((a 2), .inl ((k 2), 8, .inl (fun _ => 0))), ((a 3), .inl ((k 3), 12, .inl (fun _ => 0))), ((a 4), .inl ((k 4), 12, .inl (fun _ => 0))), ((a 5), .inl ((k 5), 360, .inl (fun _ => 0))), ((a 6), .inl ((k 6), 27, .inl (fun _ => 0))), ((a 7), .inl ((k 7), 27, .inl (fun _ => 0))), ((a 8), .inl ((k 8), 3, .inl (fun _ => 0))), ((a 9), .inl ((k 9), 8, .inl (fun _ => 0)))]
def tX1 (k : Nat → ClassId) : List (ClassId × FieldType) := [((k 0), .int), ((k 1), .int), ((k 2), .boolean), ((k 3), .int), ((k 4), .int), ((k 5), .int), ((k 6), .int), ((k 7), .int), ((k 8), .boolean), ((k 9), .int)]
theorem dX1_init_0 : decode cX1_init 0 = .ok (.aload_n 0, 1) := by decide +kernel
theorem dX1_init_1 : decode cX1_init 1 = .ok (.invokespecial 3, 3) := by decide +kernel
theorem dX1_init_4 : decode cX1_init 4 = .ok (.aload_n 0, 1) := by decide +kernel
theorem dX1_init_5 : decode cX1_init 5 = .ok (.bipush 8, 2) := by decide +kernel
theorem dX1_init_7 : decode cX1_init 7 = .ok (.newarray .int, 2) := by decide +kernel
theorem dX1_init_9 : decode cX1_init 9 = .ok (.putfield 9, 3) := by decide +kernel
theorem dX1_init_12 : decode cX1_init 12 = .ok (.aload_n 0, 1) := by decide +kernel
theorem dX1_init_13 : decode cX1_init 13 = .ok (.bipush 8, 2) := by decide +kernel
theorem dX1_init_15 : decode cX1_init 15 = .ok (.newarray .int, 2) := by decide +kernel
theorem dX1_init_17 : decode cX1_init 17 = .ok (.putfield 13, 3) := by decide +kernel
theorem dX1_init_20 : decode cX1_init 20 = .ok (.aload_n 0, 1) := by decide +kernel
theorem dX1_init_21 : decode cX1_init 21 = .ok (.bipush 8, 2) := by decide +kernel
theorem dX1_init_23 : decode cX1_init 23 = .ok (.newarray .boolean, 2) := by decide +kernel
theorem dX1_init_25 : decode cX1_init 25 = .ok (.putfield 16, 3) := by decide +kernel
theorem dX1_init_28 : decode cX1_init 28 = .ok (.aload_n 0, 1) := by decide +kernel
theorem dX1_init_29 : decode cX1_init 29 = .ok (.bipush 12, 2) := by decide +kernel
theorem dX1_init_31 : decode cX1_init 31 = .ok (.newarray .int, 2) := by decide +kernel
theorem dX1_init_33 : decode cX1_init 33 = .ok (.putfield 20, 3) := by decide +kernel
theorem dX1_init_36 : decode cX1_init 36 = .ok (.aload_n 0, 1) := by decide +kernel
theorem dX1_init_37 : decode cX1_init 37 = .ok (.bipush 12, 2) := by decide +kernel
theorem dX1_init_39 : decode cX1_init 39 = .ok (.newarray .int, 2) := by decide +kernel
theorem dX1_init_41 : decode cX1_init 41 = .ok (.putfield 23, 3) := by decide +kernel
theorem dX1_init_44 : decode cX1_init 44 = .ok (.aload_n 0, 1) := by decide +kernel
theorem dX1_init_45 : decode cX1_init 45 = .ok (.sipush 360, 3) := by decide +kernel
theorem dX1_init_48 : decode cX1_init 48 = .ok (.newarray .int, 2) := by decide +kernel
theorem dX1_init_50 : decode cX1_init 50 = .ok (.putfield 26, 3) := by decide +kernel
theorem dX1_init_53 : decode cX1_init 53 = .ok (.aload_n 0, 1) := by decide +kernel
theorem dX1_init_54 : decode cX1_init 54 = .ok (.bipush 27, 2) := by decide +kernel
theorem dX1_init_56 : decode cX1_init 56 = .ok (.newarray .int, 2) := by decide +kernel
theorem dX1_init_58 : decode cX1_init 58 = .ok (.putfield 29, 3) := by decide +kernel
theorem dX1_init_61 : decode cX1_init 61 = .ok (.aload_n 0, 1) := by decide +kernel
theorem dX1_init_62 : decode cX1_init 62 = .ok (.bipush 27, 2) := by decide +kernel
theorem dX1_init_64 : decode cX1_init 64 = .ok (.newarray .int, 2) := by decide +kernel
theorem dX1_init_66 : decode cX1_init 66 = .ok (.putfield 32, 3) := by decide +kernel
theorem dX1_init_69 : decode cX1_init 69 = .ok (.aload_n 0, 1) := by decide +kernel
theorem dX1_init_70 : decode cX1_init 70 = .ok (.iconst 3, 1) := by decide +kernel
theorem dX1_init_71 : decode cX1_init 71 = .ok (.newarray .boolean, 2) := by decide +kernel
theorem dX1_init_73 : decode cX1_init 73 = .ok (.putfield 35, 3) := by decide +kernel
theorem dX1_init_76 : decode cX1_init 76 = .ok (.aload_n 0, 1) := by decide +kernel
theorem dX1_init_77 : decode cX1_init 77 = .ok (.bipush 8, 2) := by decide +kernel
theorem dX1_init_79 : decode cX1_init 79 = .ok (.newarray .int, 2) := by decide +kernel
theorem dX1_init_81 : decode cX1_init 81 = .ok (.putfield 38, 3) := by decide +kernel
theorem dX1_init_84 : decode cX1_init 84 = .ok (.return_, 1) := by decide +kernel
theorem iX1_init_in1 : ∀ w ∈ wsX10, w ∈ wsX1_init := fun _ h => List.mem_cons_of_mem _ (List.mem_append_right _ h)
set_option maxHeartbeats 4000000 in
set_option maxRecDepth 100000 in
/-- Model(): its rows come -/
theorem c_X1_init (l : Launch) (dC : Nat → ClassId) (dI : Nat → Nat → Nat) (h0 : Nat) (sz : Nat) : Met l yX1_init wsX1_init ({ frames := 1, cells := 10, slots := 473, locals := 12 }) (va_Pc [.ref h0] (fun U => U.heap.size = sz ∧ va_P (dC, dI) vwCl [(h0, .inr (1, [.int 0, .int 0, .int 0, .int 0, .int 0, .int 0, .null, .null, .null, .null, .int 0, .null, .null, .null, .null, .null, .null]))] U.heap ∧ va_K (dC, dI) vwCl [] U ∧ va_D (fun _ => True) [(h0, .inr (1, [.int 0, .int 0, .int 0, .int 0, .int 0, .int 0, .null, .null, .null, .null, .int 0, .null, .null, .null, .null, .null, .null]))])) (va_Qv (fun _ : (Nat → Nat) × (Nat → ClassId) => True) (fun u t => va_P (dC, dI) vwCl (wX1 u.1 u.2 h0) t.heap ∧ va_K (dC, dI) vwCl (tX1 u.2) t ∧ va_D (va_A [(h0, .inr (1, [.int 0, .int 0, .int 0, .int 0, .int 0, .int 0, .null, .null, .null, .null, .int 0, .null, .null, .null, .null, .null, .null]))] sz) (wX1 u.1 u.2 h0)) (va_A [(h0, .inr (1, [.int 0, .int 0, .int 0, .int 0, .int 0, .int 0, .null, .null, .null, .null, .int 0, .null, .null, .null, .null, .null, .null]))] sz)) 10 473 (va_A [(h0, .inr (1, [.int 0, .int 0, .int 0, .int 0, .int 0, .int 0, .null, .null, .null, .null, .int 0, .null, .null, .null, .null, .null, .null]))] sz) := by
  refine Met.ofW (cc := cX1_init) (maxL := 1) (ret := none) (by decide) rfl ?_
  intro p e s m args below meth c s₁ B hml hv
  obtain ⟨rfl, hsz, hP, hK, hD0⟩ := hv
  have hx := B.exec
  have hb := B.bytes
  have hr := B.returns
  have hts := atoms_spec (ws := wsX1_init) B.pre
  have hown : s.vm.findClass RX1 = some m.cls := findClass_of_methodNamed B.named
  have hlocks := B.notSynchronized
  have hin : meth.name = "<init>" := (name_of_methodNamed B.named B.method).1
  subst hsz
  have hD := hD0.self (sz := s.heap.size)
  generalize hAe : va_A [(h0, .inr (1, [.int 0, .int 0, .int 0, .int 0, .int 0, .int 0, .null, .null, .null, .null, .int 0, .null, .null, .null, .null, .null, .null]))] s.heap.size = A at hD ⊢
  have hA : ∀ q : Nat, s.heap.size ≤ q → A q := fun q h => by rw [← hAe]; exact Or.inr h
  have hS : va_S A s.heap s.heap [] := va_S.rf
  have hP : va_P (dC, dI) vwCl [(h0, .inr (1, [.int 0, .int 0, .int 0, .int 0, .int 0, .int 0, .null, .null, .null, .null, .int 0, .null, .null, .null, .null, .null, .null]))] s.heap := hP
  have hl := lv_entry ([.ref h0]) (n := 1) (Nat.le_of_ble_eq_true rfl)
  rw [lg_entry_eq]
  generalize (lg_sl ([.ref h0]) ++ List.replicate (1 - (lg_sl ([.ref h0])).length) Slot.unset).toArray = ls at hl ⊢
  have hl : lv_has ls 1 [(0, .ref h0)] := hl
  refine lv_aload_n hx hb dX1_init_0 rfl (lv_at hl 0 rfl) ?_
  refine W.objInit hx hb hown (hts (.methodLink RX1 3 objectInit) (by decide +kernel)) (hts (.instanceMethod objectInit) (by decide +kernel)) (hts (.code objectInit ⟨#[0xb1]⟩ 1 none) (by decide +kernel)) rfl (by rw [hml]; exact hl.1) rfl dX1_init_1 (by decide +kernel) (Nat.le_of_ble_eq_true rfl) ?_
  refine W.eq (g2 := F0 m 4 ls []) rfl ?_
  refine lv_aload_n hx hb dX1_init_4 rfl (lv_at hl 0 rfl) ?_
  refine lv_bipush (v := 8) hx hb dX1_init_5 (by decide) ?_
  refine va_newa (atype := .int) (ty := .int) (N' := 8) (a0 := (8, .inl (fun _ => 0))) hx hb (hts (.arrayClass .int) (by decide +kernel)) rfl hK hP hD hS hA (fun _ => rfl) (by decide) (by decide) (by decide +kernel) (by decide +kernel) (by decide +kernel) dX1_init_7 (fun q7 k7 H hK hP hD hS => ?_)
  have hP : va_P (dC, dI) vwCl [(h0, .inr (1, [.int 0, .int 0, .int 0, .int 0, .int 0, .int 0, .null, .null, .null, .null, .int 0, .null, .null, .null, .null, .null, .null])), (q7, .inl (k7, 8, .inl (fun _ => 0)))] H := hP
  have hD : va_D A [(h0, .inr (1, [.int 0, .int 0, .int 0, .int 0, .int 0, .int 0, .null, .null, .null, .null, .int 0, .null, .null, .null, .null, .null, .null])), (q7, .inl (k7, 8, .inl (fun _ => 0)))] := hD
  have hK : va_K (dC, dI) vwCl [(k7, .int)] s := hK
  refine W.widen (k := 1) (n := 8) (by decide +kernel) (by decide +kernel) ?_
  refine va_putF (D := (dC, dI)) (ci := 1) (v := .ref q7) (ty := .array .int) (C := RX1) (T := TX1) (N := 17) hx hb hts iX1_init_in1 tyX1 tyX1_ok nmX1 hown hK hP hD hS 0 rfl rfl 6 (by decide) (hts (.fieldLink RX1 9 "OptimaWorks$Model" "from" "[I") (by decide +kernel)) (fun _ h9 => h9) rfl hin rfl (by decide +kernel) rfl rfl (Nat.le_of_ble_eq_true rfl) dX1_init_9 (fun H locs hP hD hS => ?_)
  have hP : va_P (dC, dI) vwCl [(h0, .inr (1, [.int 0, .int 0, .int 0, .int 0, .int 0, .int 0, .ref q7, .null, .null, .null, .int 0, .null, .null, .null, .null, .null, .null])), (q7, .inl (k7, 8, .inl (fun _ => 0)))] H := hP
  have hD : va_D A [(h0, .inr (1, [.int 0, .int 0, .int 0, .int 0, .int 0, .int 0, .ref q7, .null, .null, .null, .int 0, .null, .null, .null, .null, .null, .null])), (q7, .inl (k7, 8, .inl (fun _ => 0)))] := hD
  refine lv_aload_n hx hb dX1_init_12 rfl (lv_at hl 0 rfl) ?_
  refine lv_bipush (v := 8) hx hb dX1_init_13 (by decide) ?_
  refine va_newa (atype := .int) (ty := .int) (N' := 8) (a0 := (8, .inl (fun _ => 0))) hx hb (hts (.arrayClass .int) (by decide +kernel)) rfl hK hP hD hS hA (fun _ => rfl) (by decide) (by decide) (by decide +kernel) (by decide +kernel) (by decide +kernel) dX1_init_15 (fun q15 k15 H hK hP hD hS => ?_)
  have hP : va_P (dC, dI) vwCl [(h0, .inr (1, [.int 0, .int 0, .int 0, .int 0, .int 0, .int 0, .ref q7, .null, .null, .null, .int 0, .null, .null, .null, .null, .null, .null])), (q7, .inl (k7, 8, .inl (fun _ => 0))), (q15, .inl (k15, 8, .inl (fun _ => 0)))] H := hP
  have hD : va_D A [(h0, .inr (1, [.int 0, .int 0, .int 0, .int 0, .int 0, .int 0, .ref q7, .null, .null, .null, .int 0, .null, .null, .null, .null, .null, .null])), (q7, .inl (k7, 8, .inl (fun _ => 0))), (q15, .inl (k15, 8, .inl (fun _ => 0)))] := hD
  have hK : va_K (dC, dI) vwCl [(k7, .int), (k15, .int)] s := hK
  refine W.widen (k := 2) (n := 16) (by decide +kernel) (by decide +kernel) ?_
  refine va_putF (D := (dC, dI)) (ci := 1) (v := .ref q15) (ty := .array .int) (C := RX1) (T := TX1) (N := 17) hx hb hts iX1_init_in1 tyX1 tyX1_ok nmX1 hown hK hP hD hS 0 rfl rfl 7 (by decide) (hts (.fieldLink RX1 13 "OptimaWorks$Model" "to" "[I") (by decide +kernel)) (fun _ h9 => h9) rfl hin rfl (by decide +kernel) rfl rfl (Nat.le_of_ble_eq_true rfl) dX1_init_17 (fun H locs hP hD hS => ?_)
  have hP : va_P (dC, dI) vwCl [(h0, .inr (1, [.int 0, .int 0, .int 0, .int 0, .int 0, .int 0, .ref q7, .ref q15, .null, .null, .int 0, .null, .null, .null, .null, .null, .null])), (q7, .inl (k7, 8, .inl (fun _ => 0))), (q15, .inl (k15, 8, .inl (fun _ => 0)))] H := hP
  have hD : va_D A [(h0, .inr (1, [.int 0, .int 0, .int 0, .int 0, .int 0, .int 0, .ref q7, .ref q15, .null, .null, .int 0, .null, .null, .null, .null, .null, .null])), (q7, .inl (k7, 8, .inl (fun _ => 0))), (q15, .inl (k15, 8, .inl (fun _ => 0)))] := hD
  refine lv_aload_n hx hb dX1_init_20 rfl (lv_at hl 0 rfl) ?_
  refine lv_bipush (v := 8) hx hb dX1_init_21 (by decide) ?_
  refine va_newa (atype := .boolean) (ty := .boolean) (N' := 8) (a0 := (8, .inl (fun _ => 0))) hx hb (hts (.arrayClass .boolean) (by decide +kernel)) rfl hK hP hD hS hA (fun _ => rfl) (by decide) (by decide) (by decide +kernel) (by decide +kernel) (by decide +kernel) dX1_init_23 (fun q23 k23 H hK hP hD hS => ?_)
  have hP : va_P (dC, dI) vwCl [(h0, .inr (1, [.int 0, .int 0, .int 0, .int 0, .int 0, .int 0, .ref q7, .ref q15, .null, .null, .int 0, .null, .null, .null, .null, .null, .null])), (q7, .inl (k7, 8, .inl (fun _ => 0))), (q15, .inl (k15, 8, .inl (fun _ => 0))), (q23, .inl (k23, 8, .inl (fun _ => 0)))] H := hP
  have hD : va_D A [(h0, .inr (1, [.int 0, .int 0, .int 0, .int 0, .int 0, .int 0, .ref q7, .ref q15, .null, .null, .int 0, .null, .null, .null, .null, .null, .null])), (q7, .inl (k7, 8, .inl (fun _ => 0))), (q15, .inl (k15, 8, .inl (fun _ => 0))), (q23, .inl (k23, 8, .inl (fun _ => 0)))] := hD
  have hK : va_K (dC, dI) vwCl [(k7, .int), (k15, .int), (k23, .boolean)] s := hK
  refine W.widen (k := 3) (n := 24) (by decide +kernel) (by decide +kernel) ?_
  refine va_putF (D := (dC, dI)) (ci := 1) (v := .ref q23) (ty := .array .boolean) (C := RX1) (T := TX1) (N := 17) hx hb hts iX1_init_in1 tyX1 tyX1_ok nmX1 hown hK hP hD hS 0 rfl rfl 8 (by decide) (hts (.fieldLink RX1 16 "OptimaWorks$Model" "whole" "[Z") (by decide +kernel)) (fun _ h9 => h9) rfl hin rfl (by decide +kernel) rfl rfl (Nat.le_of_ble_eq_true rfl) dX1_init_25 (fun H locs hP hD hS => ?_)
  have hP : va_P (dC, dI) vwCl [(h0, .inr (1, [.int 0, .int 0, .int 0, .int 0, .int 0, .int 0, .ref q7, .ref q15, .ref q23, .null, .int 0, .null, .null, .null, .null, .null, .null])), (q7, .inl (k7, 8, .inl (fun _ => 0))), (q15, .inl (k15, 8, .inl (fun _ => 0))), (q23, .inl (k23, 8, .inl (fun _ => 0)))] H := hP
  have hD : va_D A [(h0, .inr (1, [.int 0, .int 0, .int 0, .int 0, .int 0, .int 0, .ref q7, .ref q15, .ref q23, .null, .int 0, .null, .null, .null, .null, .null, .null])), (q7, .inl (k7, 8, .inl (fun _ => 0))), (q15, .inl (k15, 8, .inl (fun _ => 0))), (q23, .inl (k23, 8, .inl (fun _ => 0)))] := hD
  refine lv_aload_n hx hb dX1_init_28 rfl (lv_at hl 0 rfl) ?_
  refine lv_bipush (v := 12) hx hb dX1_init_29 (by decide) ?_
  refine va_newa (atype := .int) (ty := .int) (N' := 12) (a0 := (12, .inl (fun _ => 0))) hx hb (hts (.arrayClass .int) (by decide +kernel)) rfl hK hP hD hS hA (fun _ => rfl) (by decide) (by decide) (by decide +kernel) (by decide +kernel) (by decide +kernel) dX1_init_31 (fun q31 k31 H hK hP hD hS => ?_)
  have hP : va_P (dC, dI) vwCl [(h0, .inr (1, [.int 0, .int 0, .int 0, .int 0, .int 0, .int 0, .ref q7, .ref q15, .ref q23, .null, .int 0, .null, .null, .null, .null, .null, .null])), (q7, .inl (k7, 8, .inl (fun _ => 0))), (q15, .inl (k15, 8, .inl (fun _ => 0))), (q23, .inl (k23, 8, .inl (fun _ => 0))), (q31, .inl (k31, 12, .inl (fun _ => 0)))] H := hP
  have hD : va_D A [(h0, .inr (1, [.int 0, .int 0, .int 0, .int 0, .int 0, .int 0, .ref q7, .ref q15, .ref q23, .null, .int 0, .null, .null, .null, .null, .null, .null])), (q7, .inl (k7, 8, .inl (fun _ => 0))), (q15, .inl (k15, 8, .inl (fun _ => 0))), (q23, .inl (k23, 8, .inl (fun _ => 0))), (q31, .inl (k31, 12, .inl (fun _ => 0)))] := hD
  have hK : va_K (dC, dI) vwCl [(k7, .int), (k15, .int), (k23, .boolean), (k31, .int)] s := hK
  refine W.widen (k := 4) (n := 36) (by decide +kernel) (by decide +kernel) ?_
  refine va_putF (D := (dC, dI)) (ci := 1) (v := .ref q31) (ty := .array .int) (C := RX1) (T := TX1) (N := 17) hx hb hts iX1_init_in1 tyX1 tyX1_ok nmX1 hown hK hP hD hS 0 rfl rfl 9 (by decide) (hts (.fieldLink RX1 20 "OptimaWorks$Model" "ways" "[I") (by decide +kernel)) (fun _ h9 => h9) rfl hin rfl (by decide +kernel) rfl rfl (Nat.le_of_ble_eq_true rfl) dX1_init_33 (fun H locs hP hD hS => ?_)
  have hP : va_P (dC, dI) vwCl [(h0, .inr (1, [.int 0, .int 0, .int 0, .int 0, .int 0, .int 0, .ref q7, .ref q15, .ref q23, .ref q31, .int 0, .null, .null, .null, .null, .null, .null])), (q7, .inl (k7, 8, .inl (fun _ => 0))), (q15, .inl (k15, 8, .inl (fun _ => 0))), (q23, .inl (k23, 8, .inl (fun _ => 0))), (q31, .inl (k31, 12, .inl (fun _ => 0)))] H := hP
  have hD : va_D A [(h0, .inr (1, [.int 0, .int 0, .int 0, .int 0, .int 0, .int 0, .ref q7, .ref q15, .ref q23, .ref q31, .int 0, .null, .null, .null, .null, .null, .null])), (q7, .inl (k7, 8, .inl (fun _ => 0))), (q15, .inl (k15, 8, .inl (fun _ => 0))), (q23, .inl (k23, 8, .inl (fun _ => 0))), (q31, .inl (k31, 12, .inl (fun _ => 0)))] := hD
  refine lv_aload_n hx hb dX1_init_36 rfl (lv_at hl 0 rfl) ?_
  refine lv_bipush (v := 12) hx hb dX1_init_37 (by decide) ?_
  refine va_newa (atype := .int) (ty := .int) (N' := 12) (a0 := (12, .inl (fun _ => 0))) hx hb (hts (.arrayClass .int) (by decide +kernel)) rfl hK hP hD hS hA (fun _ => rfl) (by decide) (by decide) (by decide +kernel) (by decide +kernel) (by decide +kernel) dX1_init_39 (fun q39 k39 H hK hP hD hS => ?_)
  have hP : va_P (dC, dI) vwCl [(h0, .inr (1, [.int 0, .int 0, .int 0, .int 0, .int 0, .int 0, .ref q7, .ref q15, .ref q23, .ref q31, .int 0, .null, .null, .null, .null, .null, .null])), (q7, .inl (k7, 8, .inl (fun _ => 0))), (q15, .inl (k15, 8, .inl (fun _ => 0))), (q23, .inl (k23, 8, .inl (fun _ => 0))), (q31, .inl (k31, 12, .inl (fun _ => 0))), (q39, .inl (k39, 12, .inl (fun _ => 0)))] H := hP
  have hD : va_D A [(h0, .inr (1, [.int 0, .int 0, .int 0, .int 0, .int 0, .int 0, .ref q7, .ref q15, .ref q23, .ref q31, .int 0, .null, .null, .null, .null, .null, .null])), (q7, .inl (k7, 8, .inl (fun _ => 0))), (q15, .inl (k15, 8, .inl (fun _ => 0))), (q23, .inl (k23, 8, .inl (fun _ => 0))), (q31, .inl (k31, 12, .inl (fun _ => 0))), (q39, .inl (k39, 12, .inl (fun _ => 0)))] := hD
  have hK : va_K (dC, dI) vwCl [(k7, .int), (k15, .int), (k23, .boolean), (k31, .int), (k39, .int)] s := hK
  refine W.widen (k := 5) (n := 48) (by decide +kernel) (by decide +kernel) ?_
  refine va_putF (D := (dC, dI)) (ci := 1) (v := .ref q39) (ty := .array .int) (C := RX1) (T := TX1) (N := 17) hx hb hts iX1_init_in1 tyX1 tyX1_ok nmX1 hown hK hP hD hS 0 rfl rfl 11 (by decide) (hts (.fieldLink RX1 23 "OptimaWorks$Model" "plainRow" "[I") (by decide +kernel)) (fun _ h9 => h9) rfl hin rfl (by decide +kernel) rfl rfl (Nat.le_of_ble_eq_true rfl) dX1_init_41 (fun H locs hP hD hS => ?_)
  have hP : va_P (dC, dI) vwCl [(h0, .inr (1, [.int 0, .int 0, .int 0, .int 0, .int 0, .int 0, .ref q7, .ref q15, .ref q23, .ref q31, .int 0, .ref q39, .null, .null, .null, .null, .null])), (q7, .inl (k7, 8, .inl (fun _ => 0))), (q15, .inl (k15, 8, .inl (fun _ => 0))), (q23, .inl (k23, 8, .inl (fun _ => 0))), (q31, .inl (k31, 12, .inl (fun _ => 0))), (q39, .inl (k39, 12, .inl (fun _ => 0)))] H := hP
  have hD : va_D A [(h0, .inr (1, [.int 0, .int 0, .int 0, .int 0, .int 0, .int 0, .ref q7, .ref q15, .ref q23, .ref q31, .int 0, .ref q39, .null, .null, .null, .null, .null])), (q7, .inl (k7, 8, .inl (fun _ => 0))), (q15, .inl (k15, 8, .inl (fun _ => 0))), (q23, .inl (k23, 8, .inl (fun _ => 0))), (q31, .inl (k31, 12, .inl (fun _ => 0))), (q39, .inl (k39, 12, .inl (fun _ => 0)))] := hD
  refine lv_aload_n hx hb dX1_init_44 rfl (lv_at hl 0 rfl) ?_
  refine lv_sipush (v := 360) hx hb dX1_init_45 (by decide) ?_
  refine va_newa (atype := .int) (ty := .int) (N' := 360) (a0 := (360, .inl (fun _ => 0))) hx hb (hts (.arrayClass .int) (by decide +kernel)) rfl hK hP hD hS hA (fun _ => rfl) (by decide) (by decide) (by decide +kernel) (by decide +kernel) (by decide +kernel) dX1_init_48 (fun q48 k48 H hK hP hD hS => ?_)
  have hP : va_P (dC, dI) vwCl [(h0, .inr (1, [.int 0, .int 0, .int 0, .int 0, .int 0, .int 0, .ref q7, .ref q15, .ref q23, .ref q31, .int 0, .ref q39, .null, .null, .null, .null, .null])), (q7, .inl (k7, 8, .inl (fun _ => 0))), (q15, .inl (k15, 8, .inl (fun _ => 0))), (q23, .inl (k23, 8, .inl (fun _ => 0))), (q31, .inl (k31, 12, .inl (fun _ => 0))), (q39, .inl (k39, 12, .inl (fun _ => 0))), (q48, .inl (k48, 360, .inl (fun _ => 0)))] H := hP
  have hD : va_D A [(h0, .inr (1, [.int 0, .int 0, .int 0, .int 0, .int 0, .int 0, .ref q7, .ref q15, .ref q23, .ref q31, .int 0, .ref q39, .null, .null, .null, .null, .null])), (q7, .inl (k7, 8, .inl (fun _ => 0))), (q15, .inl (k15, 8, .inl (fun _ => 0))), (q23, .inl (k23, 8, .inl (fun _ => 0))), (q31, .inl (k31, 12, .inl (fun _ => 0))), (q39, .inl (k39, 12, .inl (fun _ => 0))), (q48, .inl (k48, 360, .inl (fun _ => 0)))] := hD
  have hK : va_K (dC, dI) vwCl [(k7, .int), (k15, .int), (k23, .boolean), (k31, .int), (k39, .int), (k48, .int)] s := hK
  refine W.widen (k := 6) (n := 408) (by decide +kernel) (by decide +kernel) ?_
  refine va_putF (D := (dC, dI)) (ci := 1) (v := .ref q48) (ty := .array .int) (C := RX1) (T := TX1) (N := 17) hx hb hts iX1_init_in1 tyX1 tyX1_ok nmX1 hown hK hP hD hS 0 rfl rfl 12 (by decide) (hts (.fieldLink RX1 26 "OptimaWorks$Model" "kept" "[I") (by decide +kernel)) (fun _ h9 => h9) rfl hin rfl (by decide +kernel) rfl rfl (Nat.le_of_ble_eq_true rfl) dX1_init_50 (fun H locs hP hD hS => ?_)
  have hP : va_P (dC, dI) vwCl [(h0, .inr (1, [.int 0, .int 0, .int 0, .int 0, .int 0, .int 0, .ref q7, .ref q15, .ref q23, .ref q31, .int 0, .ref q39, .ref q48, .null, .null, .null, .null])), (q7, .inl (k7, 8, .inl (fun _ => 0))), (q15, .inl (k15, 8, .inl (fun _ => 0))), (q23, .inl (k23, 8, .inl (fun _ => 0))), (q31, .inl (k31, 12, .inl (fun _ => 0))), (q39, .inl (k39, 12, .inl (fun _ => 0))), (q48, .inl (k48, 360, .inl (fun _ => 0)))] H := hP
  have hD : va_D A [(h0, .inr (1, [.int 0, .int 0, .int 0, .int 0, .int 0, .int 0, .ref q7, .ref q15, .ref q23, .ref q31, .int 0, .ref q39, .ref q48, .null, .null, .null, .null])), (q7, .inl (k7, 8, .inl (fun _ => 0))), (q15, .inl (k15, 8, .inl (fun _ => 0))), (q23, .inl (k23, 8, .inl (fun _ => 0))), (q31, .inl (k31, 12, .inl (fun _ => 0))), (q39, .inl (k39, 12, .inl (fun _ => 0))), (q48, .inl (k48, 360, .inl (fun _ => 0)))] := hD
  refine lv_aload_n hx hb dX1_init_53 rfl (lv_at hl 0 rfl) ?_
  refine lv_bipush (v := 27) hx hb dX1_init_54 (by decide) ?_
  refine va_newa (atype := .int) (ty := .int) (N' := 27) (a0 := (27, .inl (fun _ => 0))) hx hb (hts (.arrayClass .int) (by decide +kernel)) rfl hK hP hD hS hA (fun _ => rfl) (by decide) (by decide) (by decide +kernel) (by decide +kernel) (by decide +kernel) dX1_init_56 (fun q56 k56 H hK hP hD hS => ?_)
  have hP : va_P (dC, dI) vwCl [(h0, .inr (1, [.int 0, .int 0, .int 0, .int 0, .int 0, .int 0, .ref q7, .ref q15, .ref q23, .ref q31, .int 0, .ref q39, .ref q48, .null, .null, .null, .null])), (q7, .inl (k7, 8, .inl (fun _ => 0))), (q15, .inl (k15, 8, .inl (fun _ => 0))), (q23, .inl (k23, 8, .inl (fun _ => 0))), (q31, .inl (k31, 12, .inl (fun _ => 0))), (q39, .inl (k39, 12, .inl (fun _ => 0))), (q48, .inl (k48, 360, .inl (fun _ => 0))), (q56, .inl (k56, 27, .inl (fun _ => 0)))] H := hP
  have hD : va_D A [(h0, .inr (1, [.int 0, .int 0, .int 0, .int 0, .int 0, .int 0, .ref q7, .ref q15, .ref q23, .ref q31, .int 0, .ref q39, .ref q48, .null, .null, .null, .null])), (q7, .inl (k7, 8, .inl (fun _ => 0))), (q15, .inl (k15, 8, .inl (fun _ => 0))), (q23, .inl (k23, 8, .inl (fun _ => 0))), (q31, .inl (k31, 12, .inl (fun _ => 0))), (q39, .inl (k39, 12, .inl (fun _ => 0))), (q48, .inl (k48, 360, .inl (fun _ => 0))), (q56, .inl (k56, 27, .inl (fun _ => 0)))] := hD
  have hK : va_K (dC, dI) vwCl [(k7, .int), (k15, .int), (k23, .boolean), (k31, .int), (k39, .int), (k48, .int), (k56, .int)] s := hK
  refine W.widen (k := 7) (n := 435) (by decide +kernel) (by decide +kernel) ?_
  refine va_putF (D := (dC, dI)) (ci := 1) (v := .ref q56) (ty := .array .int) (C := RX1) (T := TX1) (N := 17) hx hb hts iX1_init_in1 tyX1 tyX1_ok nmX1 hown hK hP hD hS 0 rfl rfl 13 (by decide) (hts (.fieldLink RX1 29 "OptimaWorks$Model" "goalOver" "[I") (by decide +kernel)) (fun _ h9 => h9) rfl hin rfl (by decide +kernel) rfl rfl (Nat.le_of_ble_eq_true rfl) dX1_init_58 (fun H locs hP hD hS => ?_)
  have hP : va_P (dC, dI) vwCl [(h0, .inr (1, [.int 0, .int 0, .int 0, .int 0, .int 0, .int 0, .ref q7, .ref q15, .ref q23, .ref q31, .int 0, .ref q39, .ref q48, .ref q56, .null, .null, .null])), (q7, .inl (k7, 8, .inl (fun _ => 0))), (q15, .inl (k15, 8, .inl (fun _ => 0))), (q23, .inl (k23, 8, .inl (fun _ => 0))), (q31, .inl (k31, 12, .inl (fun _ => 0))), (q39, .inl (k39, 12, .inl (fun _ => 0))), (q48, .inl (k48, 360, .inl (fun _ => 0))), (q56, .inl (k56, 27, .inl (fun _ => 0)))] H := hP
  have hD : va_D A [(h0, .inr (1, [.int 0, .int 0, .int 0, .int 0, .int 0, .int 0, .ref q7, .ref q15, .ref q23, .ref q31, .int 0, .ref q39, .ref q48, .ref q56, .null, .null, .null])), (q7, .inl (k7, 8, .inl (fun _ => 0))), (q15, .inl (k15, 8, .inl (fun _ => 0))), (q23, .inl (k23, 8, .inl (fun _ => 0))), (q31, .inl (k31, 12, .inl (fun _ => 0))), (q39, .inl (k39, 12, .inl (fun _ => 0))), (q48, .inl (k48, 360, .inl (fun _ => 0))), (q56, .inl (k56, 27, .inl (fun _ => 0)))] := hD
  refine lv_aload_n hx hb dX1_init_61 rfl (lv_at hl 0 rfl) ?_
  refine lv_bipush (v := 27) hx hb dX1_init_62 (by decide) ?_
  refine va_newa (atype := .int) (ty := .int) (N' := 27) (a0 := (27, .inl (fun _ => 0))) hx hb (hts (.arrayClass .int) (by decide +kernel)) rfl hK hP hD hS hA (fun _ => rfl) (by decide) (by decide) (by decide +kernel) (by decide +kernel) (by decide +kernel) dX1_init_64 (fun q64 k64 H hK hP hD hS => ?_)
  have hP : va_P (dC, dI) vwCl [(h0, .inr (1, [.int 0, .int 0, .int 0, .int 0, .int 0, .int 0, .ref q7, .ref q15, .ref q23, .ref q31, .int 0, .ref q39, .ref q48, .ref q56, .null, .null, .null])), (q7, .inl (k7, 8, .inl (fun _ => 0))), (q15, .inl (k15, 8, .inl (fun _ => 0))), (q23, .inl (k23, 8, .inl (fun _ => 0))), (q31, .inl (k31, 12, .inl (fun _ => 0))), (q39, .inl (k39, 12, .inl (fun _ => 0))), (q48, .inl (k48, 360, .inl (fun _ => 0))), (q56, .inl (k56, 27, .inl (fun _ => 0))), (q64, .inl (k64, 27, .inl (fun _ => 0)))] H := hP
  have hD : va_D A [(h0, .inr (1, [.int 0, .int 0, .int 0, .int 0, .int 0, .int 0, .ref q7, .ref q15, .ref q23, .ref q31, .int 0, .ref q39, .ref q48, .ref q56, .null, .null, .null])), (q7, .inl (k7, 8, .inl (fun _ => 0))), (q15, .inl (k15, 8, .inl (fun _ => 0))), (q23, .inl (k23, 8, .inl (fun _ => 0))), (q31, .inl (k31, 12, .inl (fun _ => 0))), (q39, .inl (k39, 12, .inl (fun _ => 0))), (q48, .inl (k48, 360, .inl (fun _ => 0))), (q56, .inl (k56, 27, .inl (fun _ => 0))), (q64, .inl (k64, 27, .inl (fun _ => 0)))] := hD
  have hK : va_K (dC, dI) vwCl [(k7, .int), (k15, .int), (k23, .boolean), (k31, .int), (k39, .int), (k48, .int), (k56, .int), (k64, .int)] s := hK
  refine W.widen (k := 8) (n := 462) (by decide +kernel) (by decide +kernel) ?_
  refine va_putF (D := (dC, dI)) (ci := 1) (v := .ref q64) (ty := .array .int) (C := RX1) (T := TX1) (N := 17) hx hb hts iX1_init_in1 tyX1 tyX1_ok nmX1 hown hK hP hD hS 0 rfl rfl 14 (by decide) (hts (.fieldLink RX1 32 "OptimaWorks$Model" "goalUnder" "[I") (by decide +kernel)) (fun _ h9 => h9) rfl hin rfl (by decide +kernel) rfl rfl (Nat.le_of_ble_eq_true rfl) dX1_init_66 (fun H locs hP hD hS => ?_)
  have hP : va_P (dC, dI) vwCl [(h0, .inr (1, [.int 0, .int 0, .int 0, .int 0, .int 0, .int 0, .ref q7, .ref q15, .ref q23, .ref q31, .int 0, .ref q39, .ref q48, .ref q56, .ref q64, .null, .null])), (q7, .inl (k7, 8, .inl (fun _ => 0))), (q15, .inl (k15, 8, .inl (fun _ => 0))), (q23, .inl (k23, 8, .inl (fun _ => 0))), (q31, .inl (k31, 12, .inl (fun _ => 0))), (q39, .inl (k39, 12, .inl (fun _ => 0))), (q48, .inl (k48, 360, .inl (fun _ => 0))), (q56, .inl (k56, 27, .inl (fun _ => 0))), (q64, .inl (k64, 27, .inl (fun _ => 0)))] H := hP
  have hD : va_D A [(h0, .inr (1, [.int 0, .int 0, .int 0, .int 0, .int 0, .int 0, .ref q7, .ref q15, .ref q23, .ref q31, .int 0, .ref q39, .ref q48, .ref q56, .ref q64, .null, .null])), (q7, .inl (k7, 8, .inl (fun _ => 0))), (q15, .inl (k15, 8, .inl (fun _ => 0))), (q23, .inl (k23, 8, .inl (fun _ => 0))), (q31, .inl (k31, 12, .inl (fun _ => 0))), (q39, .inl (k39, 12, .inl (fun _ => 0))), (q48, .inl (k48, 360, .inl (fun _ => 0))), (q56, .inl (k56, 27, .inl (fun _ => 0))), (q64, .inl (k64, 27, .inl (fun _ => 0)))] := hD
  refine lv_aload_n hx hb dX1_init_69 rfl (lv_at hl 0 rfl) ?_
  refine lv_iconst (v := 3) hx hb dX1_init_70 (by decide) ?_
  refine va_newa (atype := .boolean) (ty := .boolean) (N' := 3) (a0 := (3, .inl (fun _ => 0))) hx hb (hts (.arrayClass .boolean) (by decide +kernel)) rfl hK hP hD hS hA (fun _ => rfl) (by decide) (by decide) (by decide +kernel) (by decide +kernel) (by decide +kernel) dX1_init_71 (fun q71 k71 H hK hP hD hS => ?_)
  have hP : va_P (dC, dI) vwCl [(h0, .inr (1, [.int 0, .int 0, .int 0, .int 0, .int 0, .int 0, .ref q7, .ref q15, .ref q23, .ref q31, .int 0, .ref q39, .ref q48, .ref q56, .ref q64, .null, .null])), (q7, .inl (k7, 8, .inl (fun _ => 0))), (q15, .inl (k15, 8, .inl (fun _ => 0))), (q23, .inl (k23, 8, .inl (fun _ => 0))), (q31, .inl (k31, 12, .inl (fun _ => 0))), (q39, .inl (k39, 12, .inl (fun _ => 0))), (q48, .inl (k48, 360, .inl (fun _ => 0))), (q56, .inl (k56, 27, .inl (fun _ => 0))), (q64, .inl (k64, 27, .inl (fun _ => 0))), (q71, .inl (k71, 3, .inl (fun _ => 0)))] H := hP
  have hD : va_D A [(h0, .inr (1, [.int 0, .int 0, .int 0, .int 0, .int 0, .int 0, .ref q7, .ref q15, .ref q23, .ref q31, .int 0, .ref q39, .ref q48, .ref q56, .ref q64, .null, .null])), (q7, .inl (k7, 8, .inl (fun _ => 0))), (q15, .inl (k15, 8, .inl (fun _ => 0))), (q23, .inl (k23, 8, .inl (fun _ => 0))), (q31, .inl (k31, 12, .inl (fun _ => 0))), (q39, .inl (k39, 12, .inl (fun _ => 0))), (q48, .inl (k48, 360, .inl (fun _ => 0))), (q56, .inl (k56, 27, .inl (fun _ => 0))), (q64, .inl (k64, 27, .inl (fun _ => 0))), (q71, .inl (k71, 3, .inl (fun _ => 0)))] := hD
  have hK : va_K (dC, dI) vwCl [(k7, .int), (k15, .int), (k23, .boolean), (k31, .int), (k39, .int), (k48, .int), (k56, .int), (k64, .int), (k71, .boolean)] s := hK
  refine W.widen (k := 9) (n := 465) (by decide +kernel) (by decide +kernel) ?_
  refine va_putF (D := (dC, dI)) (ci := 1) (v := .ref q71) (ty := .array .boolean) (C := RX1) (T := TX1) (N := 17) hx hb hts iX1_init_in1 tyX1 tyX1_ok nmX1 hown hK hP hD hS 0 rfl rfl 15 (by decide) (hts (.fieldLink RX1 35 "OptimaWorks$Model" "goalMax" "[Z") (by decide +kernel)) (fun _ h9 => h9) rfl hin rfl (by decide +kernel) rfl rfl (Nat.le_of_ble_eq_true rfl) dX1_init_73 (fun H locs hP hD hS => ?_)
  have hP : va_P (dC, dI) vwCl [(h0, .inr (1, [.int 0, .int 0, .int 0, .int 0, .int 0, .int 0, .ref q7, .ref q15, .ref q23, .ref q31, .int 0, .ref q39, .ref q48, .ref q56, .ref q64, .ref q71, .null])), (q7, .inl (k7, 8, .inl (fun _ => 0))), (q15, .inl (k15, 8, .inl (fun _ => 0))), (q23, .inl (k23, 8, .inl (fun _ => 0))), (q31, .inl (k31, 12, .inl (fun _ => 0))), (q39, .inl (k39, 12, .inl (fun _ => 0))), (q48, .inl (k48, 360, .inl (fun _ => 0))), (q56, .inl (k56, 27, .inl (fun _ => 0))), (q64, .inl (k64, 27, .inl (fun _ => 0))), (q71, .inl (k71, 3, .inl (fun _ => 0)))] H := hP
  have hD : va_D A [(h0, .inr (1, [.int 0, .int 0, .int 0, .int 0, .int 0, .int 0, .ref q7, .ref q15, .ref q23, .ref q31, .int 0, .ref q39, .ref q48, .ref q56, .ref q64, .ref q71, .null])), (q7, .inl (k7, 8, .inl (fun _ => 0))), (q15, .inl (k15, 8, .inl (fun _ => 0))), (q23, .inl (k23, 8, .inl (fun _ => 0))), (q31, .inl (k31, 12, .inl (fun _ => 0))), (q39, .inl (k39, 12, .inl (fun _ => 0))), (q48, .inl (k48, 360, .inl (fun _ => 0))), (q56, .inl (k56, 27, .inl (fun _ => 0))), (q64, .inl (k64, 27, .inl (fun _ => 0))), (q71, .inl (k71, 3, .inl (fun _ => 0)))] := hD
  refine lv_aload_n hx hb dX1_init_76 rfl (lv_at hl 0 rfl) ?_
  refine lv_bipush (v := 8) hx hb dX1_init_77 (by decide) ?_
  refine va_newa (atype := .int) (ty := .int) (N' := 8) (a0 := (8, .inl (fun _ => 0))) hx hb (hts (.arrayClass .int) (by decide +kernel)) rfl hK hP hD hS hA (fun _ => rfl) (by decide) (by decide) (by decide +kernel) (by decide +kernel) (by decide +kernel) dX1_init_79 (fun q79 k79 H hK hP hD hS => ?_)
  have hP : va_P (dC, dI) vwCl [(h0, .inr (1, [.int 0, .int 0, .int 0, .int 0, .int 0, .int 0, .ref q7, .ref q15, .ref q23, .ref q31, .int 0, .ref q39, .ref q48, .ref q56, .ref q64, .ref q71, .null])), (q7, .inl (k7, 8, .inl (fun _ => 0))), (q15, .inl (k15, 8, .inl (fun _ => 0))), (q23, .inl (k23, 8, .inl (fun _ => 0))), (q31, .inl (k31, 12, .inl (fun _ => 0))), (q39, .inl (k39, 12, .inl (fun _ => 0))), (q48, .inl (k48, 360, .inl (fun _ => 0))), (q56, .inl (k56, 27, .inl (fun _ => 0))), (q64, .inl (k64, 27, .inl (fun _ => 0))), (q71, .inl (k71, 3, .inl (fun _ => 0))), (q79, .inl (k79, 8, .inl (fun _ => 0)))] H := hP
  have hD : va_D A [(h0, .inr (1, [.int 0, .int 0, .int 0, .int 0, .int 0, .int 0, .ref q7, .ref q15, .ref q23, .ref q31, .int 0, .ref q39, .ref q48, .ref q56, .ref q64, .ref q71, .null])), (q7, .inl (k7, 8, .inl (fun _ => 0))), (q15, .inl (k15, 8, .inl (fun _ => 0))), (q23, .inl (k23, 8, .inl (fun _ => 0))), (q31, .inl (k31, 12, .inl (fun _ => 0))), (q39, .inl (k39, 12, .inl (fun _ => 0))), (q48, .inl (k48, 360, .inl (fun _ => 0))), (q56, .inl (k56, 27, .inl (fun _ => 0))), (q64, .inl (k64, 27, .inl (fun _ => 0))), (q71, .inl (k71, 3, .inl (fun _ => 0))), (q79, .inl (k79, 8, .inl (fun _ => 0)))] := hD
  have hK : va_K (dC, dI) vwCl [(k7, .int), (k15, .int), (k23, .boolean), (k31, .int), (k39, .int), (k48, .int), (k56, .int), (k64, .int), (k71, .boolean), (k79, .int)] s := hK
  refine W.widen (k := 10) (n := 473) (by decide +kernel) (by decide +kernel) ?_
  refine va_putF (D := (dC, dI)) (ci := 1) (v := .ref q79) (ty := .array .int) (C := RX1) (T := TX1) (N := 17) hx hb hts iX1_init_in1 tyX1 tyX1_ok nmX1 hown hK hP hD hS 0 rfl rfl 16 (by decide) (hts (.fieldLink RX1 38 "OptimaWorks$Model" "different" "[I") (by decide +kernel)) (fun _ h9 => h9) rfl hin rfl (by decide +kernel) rfl rfl (Nat.le_of_ble_eq_true rfl) dX1_init_81 (fun H locs hP hD hS => ?_)
  have hP : va_P (dC, dI) vwCl [(h0, .inr (1, [.int 0, .int 0, .int 0, .int 0, .int 0, .int 0, .ref q7, .ref q15, .ref q23, .ref q31, .int 0, .ref q39, .ref q48, .ref q56, .ref q64, .ref q71, .ref q79])), (q7, .inl (k7, 8, .inl (fun _ => 0))), (q15, .inl (k15, 8, .inl (fun _ => 0))), (q23, .inl (k23, 8, .inl (fun _ => 0))), (q31, .inl (k31, 12, .inl (fun _ => 0))), (q39, .inl (k39, 12, .inl (fun _ => 0))), (q48, .inl (k48, 360, .inl (fun _ => 0))), (q56, .inl (k56, 27, .inl (fun _ => 0))), (q64, .inl (k64, 27, .inl (fun _ => 0))), (q71, .inl (k71, 3, .inl (fun _ => 0))), (q79, .inl (k79, 8, .inl (fun _ => 0)))] H := hP
  have hD : va_D A [(h0, .inr (1, [.int 0, .int 0, .int 0, .int 0, .int 0, .int 0, .ref q7, .ref q15, .ref q23, .ref q31, .int 0, .ref q39, .ref q48, .ref q56, .ref q64, .ref q71, .ref q79])), (q7, .inl (k7, 8, .inl (fun _ => 0))), (q15, .inl (k15, 8, .inl (fun _ => 0))), (q23, .inl (k23, 8, .inl (fun _ => 0))), (q31, .inl (k31, 12, .inl (fun _ => 0))), (q39, .inl (k39, 12, .inl (fun _ => 0))), (q48, .inl (k48, 360, .inl (fun _ => 0))), (q56, .inl (k56, 27, .inl (fun _ => 0))), (q64, .inl (k64, 27, .inl (fun _ => 0))), (q71, .inl (k71, 3, .inl (fun _ => 0))), (q79, .inl (k79, 8, .inl (fun _ => 0)))] := hD
  refine W.widen (k := 10) (n := 473) (by decide +kernel) (by decide +kernel) ?_
  exact W.vret hx hb hr (fun t ht hW => ⟨⟨((fun n => [q7, q15, q23, q31, q39, q48, q56, q64, q71, q79].getD n 0), (fun n => [k7, k15, k23, k31, k39, k48, k56, k64, k71, k79].getD n k7)), rfl, trivial, by rw [ht]; exact hP, va_K.moved hW.alike hK, hD⟩, hS.F ht⟩) hS.2.2 dX1_init_84
end
section
def wsX11_init_r1 : List Cond := [Cond.methodLink RX11 1 objectInit, Cond.instanceMethod objectInit, Cond.code objectInit ⟨#[0xb1]⟩ 1 none, Cond.arrayClass .int, Cond.fieldLink RX11 9 "OptimaWorks" "ready" "[I", Cond.classLink RX11 13 RX9, Cond.instantiable RX9 9, Cond.initialized RX9, Cond.fieldLink RX11 16 "OptimaWorks" "words" "LOptimaWorks$Words;", Cond.classLink RX11 20 RX1, Cond.instantiable RX1 17, Cond.initialized RX1, Cond.fieldLink RX11 23 "OptimaWorks" "model" "LOptimaWorks$Model;", Cond.arrayClass .byte, Cond.fieldLink RX11 27 "OptimaWorks" "sheet" "[B", Cond.instanceMethod yX9_init, Cond.code yX9_init cX9_init 1 none, Cond.methodLink RX9 3 objectInit, Cond.fieldLink RX9 9 "OptimaWorks$Words" "tape" "[B", Cond.fieldLink RX9 15 "OptimaWorks$Words" "place" "I", Cond.instanceMethod yX1_init, Cond.code yX1_init cX1_init 1 none, Cond.methodLink RX1 3 objectInit, Cond.fieldLink RX1 9 "OptimaWorks$Model" "from" "[I"]
def wsX11_init_r2 : List Cond := [Cond.fieldLink RX1 13 "OptimaWorks$Model" "to" "[I", Cond.arrayClass .boolean, Cond.fieldLink RX1 16 "OptimaWorks$Model" "whole" "[Z", Cond.fieldLink RX1 20 "OptimaWorks$Model" "ways" "[I", Cond.fieldLink RX1 23 "OptimaWorks$Model" "plainRow" "[I", Cond.fieldLink RX1 26 "OptimaWorks$Model" "kept" "[I", Cond.fieldLink RX1 29 "OptimaWorks$Model" "goalOver" "[I", Cond.fieldLink RX1 32 "OptimaWorks$Model" "goalUnder" "[I", Cond.fieldLink RX1 35 "OptimaWorks$Model" "goalMax" "[Z", Cond.fieldLink RX1 38 "OptimaWorks$Model" "different" "[I"]
def wsX11_init : List Cond := .code yX11_init cX11_init 1 none :: ((wsX11_init_r1 ++ wsX11_init_r2) ++ wsX110 ++ wsX90 ++ wsX10)
set_option maxRecDepth 20000 in
theorem ggX11_init_X9_init : GoodIn wsX11_init wsX9_init := goodIn_r _ [17, 18, 2, 3, 14, 19, 20, 46, 47, 48, 49, 50, 51, 52, 53, 54] (by decide +kernel) (by decide +kernel)
set_option maxRecDepth 20000 in
theorem gX11_init_X9_init_n15 : GoodIn wsX11_init (wsX9_init) := ggX11_init_X9_init
set_option maxRecDepth 20000 in
theorem ggX11_init_X1_init : GoodIn wsX11_init wsX1_init := goodIn_r _ [22, 23, 2, 3, 4, 24, 25, 26, 27, 28, 29, 30, 31, 32, 33, 34, 55, 56, 57, 58, 59, 60, 61, 62, 63, 64, 65, 66, 67, 68, 69, 70, 71] (by decide +kernel) (by decide +kernel)
set_option maxRecDepth 20000 in
theorem gX11_init_X1_init_n22 : GoodIn wsX11_init (wsX1_init) := ggX11_init_X1_init
def wX11 (a : Nat → Nat) (k : Nat → ClassId) (h0 : Nat) : va_W := [(h0, .inr (11, [.ref (a 0), .ref (a 1), .ref (a 3), .ref (a 14), .int 0, .null, .null, .null, .null, .null, .null])), ((a 0), .inl ((k 0), 5, .inl (fun _ => 0))), ((a 1), .inr (9, [.ref (a 2), .int 0, .int 0, .int (-1), .int 0, .int 0, .int 0, .long 0, .int 0])), ((a 2), .inl ((k 1), 64, .inl (fun _ => 0))), ((a 3), .inr (1, [.int 0, .int 0, .int 0, .int 0, .int 0, .int 0, .ref (a 4), .ref (a 5), .ref (a 6), .ref (a 7), .int 0, .ref (a 8), .ref (a 9), .ref (a 10), .ref (a 11), .ref (a 12), .ref (a 13)])), ((a 4), .inl ((k 2), 8, .inl (fun _ => 0))), ((a 5), .inl ((k 3), 8, .inl (fun _ => 0))), ((a 6), .inl ((k 4), 8, .inl (fun _ => 0))), ((a 7), .inl ((k 5), 12, .inl (fun _ => 0))), ((a 8), .inl ((k 6), 12, .inl (fun _ => 0))), ((a 9), .inl ((k 7), 360, .inl (fun _ => 0))), ((a 10), .inl ((k 8), 27, .inl (fun _ => 0))), ((a 11), .inl ((k 9), 27, .inl (fun _ => 0))), ((a 12), .inl ((k 10), 3, .inl (fun _ => 0))), ((a 13), .inl ((k 11), 8, .inl (fun _ => 0))), ((a 14), .inl ((k 12), 64, .inl (fun _ => 0)))]
def tX11 (k : Nat → ClassId) : List (ClassId × FieldType) := [((k 0), .int), ((k 1), .byte), ((k 2), .int), ((k 3), .int), ((k 4), .boolean), ((k 5), .int), ((k 6), .int), ((k 7), .int), ((k 8), .int), ((k 9), .int), ((k 10), .boolean), ((k 11), .int), ((k 12), .byte)]
theorem dX11_init_0 : decode cX11_init 0 = .ok (.aload_n 0, 1) := by decide +kernel
theorem dX11_init_1 : decode cX11_init 1 = .ok (.invokespecial 1, 3) := by decide +kernel
theorem dX11_init_4 : decode cX11_init 4 = .ok (.aload_n 0, 1) := by decide +kernel
theorem dX11_init_5 : decode cX11_init 5 = .ok (.iconst 5, 1) := by decide +kernel
theorem dX11_init_6 : decode cX11_init 6 = .ok (.newarray .int, 2) := by decide +kernel
theorem dX11_init_8 : decode cX11_init 8 = .ok (.putfield 9, 3) := by decide +kernel
theorem dX11_init_11 : decode cX11_init 11 = .ok (.aload_n 0, 1) := by decide +kernel
theorem dX11_init_12 : decode cX11_init 12 = .ok (.new 13, 3) := by decide +kernel
theorem dX11_init_15 : decode cX11_init 15 = .ok (.dup, 1) := by decide +kernel
theorem dX11_init_16 : decode cX11_init 16 = .ok (.invokespecial 15, 3) := by decide +kernel
theorem dX11_init_19 : decode cX11_init 19 = .ok (.putfield 16, 3) := by decide +kernel
theorem dX11_init_22 : decode cX11_init 22 = .ok (.aload_n 0, 1) := by decide +kernel
theorem dX11_init_23 : decode cX11_init 23 = .ok (.new 20, 3) := by decide +kernel
theorem dX11_init_26 : decode cX11_init 26 = .ok (.dup, 1) := by decide +kernel
theorem dX11_init_27 : decode cX11_init 27 = .ok (.invokespecial 22, 3) := by decide +kernel
theorem dX11_init_30 : decode cX11_init 30 = .ok (.putfield 23, 3) := by decide +kernel
theorem dX11_init_33 : decode cX11_init 33 = .ok (.aload_n 0, 1) := by decide +kernel
theorem dX11_init_34 : decode cX11_init 34 = .ok (.bipush 64, 2) := by decide +kernel
theorem dX11_init_36 : decode cX11_init 36 = .ok (.newarray .byte, 2) := by decide +kernel
theorem dX11_init_38 : decode cX11_init 38 = .ok (.putfield 27, 3) := by decide +kernel
theorem dX11_init_41 : decode cX11_init 41 = .ok (.return_, 1) := by decide +kernel
theorem iX11_init_in1 : ∀ w ∈ wsX10, w ∈ wsX11_init := fun _ h => List.mem_cons_of_mem _ (List.mem_append_right _ h)
theorem iX11_init_in9 : ∀ w ∈ wsX90, w ∈ wsX11_init := fun _ h => List.mem_cons_of_mem _ (List.mem_append_left _ (List.mem_append_right _ h))
theorem iX11_init_in11 : ∀ w ∈ wsX110, w ∈ wsX11_init := fun _ h => List.mem_cons_of_mem _ (List.mem_append_left _ (List.mem_append_left _ (List.mem_append_right _ h)))
set_option maxHeartbeats 4000000 in
set_option maxRecDepth 100000 in
/-- OptimaWorks(): ready bytes, words, an empty model, a sheet -/
theorem c_X11_init (l : Launch) (dC : Nat → ClassId) (dI : Nat → Nat → Nat) (h0 : Nat) (sz : Nat) : Met l yX11_init wsX11_init ({ frames := 2, cells := 15, slots := 632, locals := 32 }) (va_Pc [.ref h0] (fun U => U.heap.size = sz ∧ va_P (dC, dI) vwCl [(h0, .inr (11, [.null, .null, .null, .null, .int 0, .null, .null, .null, .null, .null, .null]))] U.heap ∧ va_K (dC, dI) vwCl [] U ∧ va_D (fun _ => True) [(h0, .inr (11, [.null, .null, .null, .null, .int 0, .null, .null, .null, .null, .null, .null]))] ∧ va_Nw (.methodLinkNest RX11 15 yX9_init RX11) U ∧ va_Nw (.methodLinkNest RX11 22 yX1_init RX11) U)) (va_Qv (fun _ : (Nat → Nat) × (Nat → ClassId) => True) (fun u t => va_P (dC, dI) vwCl (wX11 u.1 u.2 h0) t.heap ∧ va_K (dC, dI) vwCl (tX11 u.2) t ∧ va_D (va_A [(h0, .inr (11, [.null, .null, .null, .null, .int 0, .null, .null, .null, .null, .null, .null]))] sz) (wX11 u.1 u.2 h0)) (va_A [(h0, .inr (11, [.null, .null, .null, .null, .int 0, .null, .null, .null, .null, .null, .null]))] sz)) 15 632 (va_A [(h0, .inr (11, [.null, .null, .null, .null, .int 0, .null, .null, .null, .null, .null, .null]))] sz) := by
  refine Met.ofW (cc := cX11_init) (maxL := 1) (ret := none) (by decide) rfl ?_
  intro p e s m args below meth c s₁ B hml hv
  obtain ⟨rfl, hsz, hP, hK, hD0, hn15, hn22⟩ := hv
  have hx := B.exec
  have hb := B.bytes
  have hr := B.returns
  have hts := atoms_spec (ws := wsX11_init) B.pre
  have hown : s.vm.findClass RX11 = some m.cls := findClass_of_methodNamed B.named
  have hlocks := B.notSynchronized
  have hin : meth.name = "<init>" := (name_of_methodNamed B.named B.method).1
  subst hsz
  have hD := hD0.self (sz := s.heap.size)
  generalize hAe : va_A [(h0, .inr (11, [.null, .null, .null, .null, .int 0, .null, .null, .null, .null, .null, .null]))] s.heap.size = A at hD ⊢
  have hA : ∀ q : Nat, s.heap.size ≤ q → A q := fun q h => by rw [← hAe]; exact Or.inr h
  have hS : va_S A s.heap s.heap [] := va_S.rf
  have hP : va_P (dC, dI) vwCl [(h0, .inr (11, [.null, .null, .null, .null, .int 0, .null, .null, .null, .null, .null, .null]))] s.heap := hP
  have hl := lv_entry ([.ref h0]) (n := 1) (Nat.le_of_ble_eq_true rfl)
  rw [lg_entry_eq]
  generalize (lg_sl ([.ref h0]) ++ List.replicate (1 - (lg_sl ([.ref h0])).length) Slot.unset).toArray = ls at hl ⊢
  have hl : lv_has ls 1 [(0, .ref h0)] := hl
  refine lv_aload_n hx hb dX11_init_0 rfl (lv_at hl 0 rfl) ?_
  refine W.objInit hx hb hown (hts (.methodLink RX11 1 objectInit) (by decide +kernel)) (hts (.instanceMethod objectInit) (by decide +kernel)) (hts (.code objectInit ⟨#[0xb1]⟩ 1 none) (by decide +kernel)) rfl (by rw [hml]; exact hl.1) rfl dX11_init_1 (by decide +kernel) (Nat.le_of_ble_eq_true rfl) ?_
  refine W.eq (g2 := F0 m 4 ls []) rfl ?_
  refine lv_aload_n hx hb dX11_init_4 rfl (lv_at hl 0 rfl) ?_
  refine lv_iconst (v := 5) hx hb dX11_init_5 (by decide) ?_
  refine va_newa (atype := .int) (ty := .int) (N' := 5) (a0 := (5, .inl (fun _ => 0))) hx hb (hts (.arrayClass .int) (by decide +kernel)) rfl hK hP hD hS hA (fun _ => rfl) (by decide) (by decide) (by decide +kernel) (by decide +kernel) (by decide +kernel) dX11_init_6 (fun q6 k6 H hK hP hD hS => ?_)
  have hP : va_P (dC, dI) vwCl [(h0, .inr (11, [.null, .null, .null, .null, .int 0, .null, .null, .null, .null, .null, .null])), (q6, .inl (k6, 5, .inl (fun _ => 0)))] H := hP
  have hD : va_D A [(h0, .inr (11, [.null, .null, .null, .null, .int 0, .null, .null, .null, .null, .null, .null])), (q6, .inl (k6, 5, .inl (fun _ => 0)))] := hD
  have hK : va_K (dC, dI) vwCl [(k6, .int)] s := hK
  refine W.widen (k := 1) (n := 5) (by decide +kernel) (by decide +kernel) ?_
  refine va_putF (D := (dC, dI)) (ci := 11) (v := .ref q6) (ty := .array .int) (C := RX11) (T := TX11) (N := 11) hx hb hts iX11_init_in11 tyX11 tyX11_ok nmX11 hown hK hP hD hS 0 rfl rfl 0 (by decide) (hts (.fieldLink RX11 9 "OptimaWorks" "ready" "[I") (by decide +kernel)) (fun _ h9 => h9) rfl hin rfl (by decide +kernel) rfl rfl (Nat.le_of_ble_eq_true rfl) dX11_init_8 (fun H locs hP hD hS => ?_)
  have hP : va_P (dC, dI) vwCl [(h0, .inr (11, [.ref q6, .null, .null, .null, .int 0, .null, .null, .null, .null, .null, .null])), (q6, .inl (k6, 5, .inl (fun _ => 0)))] H := hP
  have hD : va_D A [(h0, .inr (11, [.ref q6, .null, .null, .null, .int 0, .null, .null, .null, .null, .null, .null])), (q6, .inl (k6, 5, .inl (fun _ => 0)))] := hD
  refine lv_aload_n hx hb dX11_init_11 rfl (lv_at hl 0 rfl) ?_
  refine va_new (ci := 9) (fs := [.null, .int 0, .int 0, .int 0, .int 0, .int 0, .int 0, .long 0, .int 0]) (C := RX9) (T := TX9) (N := 9) hx hb hts iX11_init_in9 tyX9 tyX9_ok hown (hts (.classLink RX11 13 RX9) (by decide +kernel)) (hts (.instantiable RX9 9) (by decide +kernel)) (hts (.initialized RX9) (by decide +kernel)) hK hP hD hS hA rfl (by decide +kernel) (by decide +kernel) (by decide +kernel) dX11_init_12 (fun q12 H hP hD hS => ?_)
  have hP : va_P (dC, dI) vwCl [(h0, .inr (11, [.ref q6, .null, .null, .null, .int 0, .null, .null, .null, .null, .null, .null])), (q6, .inl (k6, 5, .inl (fun _ => 0))), (q12, .inr (9, [.null, .int 0, .int 0, .int 0, .int 0, .int 0, .int 0, .long 0, .int 0]))] H := hP
  have hD : va_D A [(h0, .inr (11, [.ref q6, .null, .null, .null, .int 0, .null, .null, .null, .null, .null, .null])), (q6, .inl (k6, 5, .inl (fun _ => 0))), (q12, .inr (9, [.null, .int 0, .int 0, .int 0, .int 0, .int 0, .int 0, .long 0, .int 0]))] := hD
  refine W.widen (k := 2) (n := 14) (by decide +kernel) (by decide +kernel) ?_
  refine lv_dup hx hb dX11_init_15 rfl ?_
  have hPc := hP.sub (ws' := [(q12, .inr (9, [.null, .int 0, .int 0, .int 0, .int 0, .int 0, .int 0, .long 0, .int 0]))]) [2] rfl
  have hDc := hD.sub (ws' := [(q12, .inr (9, [.null, .int 0, .int 0, .int 0, .int 0, .int 0, .int 0, .long 0, .int 0]))]) [2] (by decide) rfl
  have hKc := hK.sub (tys' := []) [] rfl
  have hFc := va_free (wc := [(q12, .inr (9, [.null, .int 0, .int 0, .int 0, .int 0, .int 0, .int 0, .long 0, .int 0]))]) hD hS hA [2] rfl
  refine va_callv (va_runIN (As := []) (rest := [.ref q12, .ref h0]) ⟨hx, hb, hml, hown, hts⟩ (c_X9_init l dC dI q12 H.size) ⟨va_cnB 0 hts gX11_init_X9_init_n15 rfl rfl rfl hn15 (hts (.initialized RX9) (by decide +kernel)) (by decide +kernel) ⟨by decide +kernel, by decide +kernel⟩, rfl, (hts (.instanceMethod yX9_init) (by decide +kernel))⟩ ⟨fun a U g mk q => by obtain ⟨q0, q1, qP, qK, qD⟩ := q; exact ⟨q0, q1, qP, va_K.moved (u := U) (U := U.calling g mk a) (Vm.Alike.refl U.vm) qK, qD⟩, fun U hU hW => ⟨rfl, by rw [hU], by rw [hU]; exact hPc, va_K.moved hW.alike hKc, hDc.weaken (fun _ _ _ _ => trivial)⟩⟩ rfl rfl hl.1 rfl (lv_room (Nat.le_of_ble_eq_true rfl)) dX11_init_16 ⟨by decide +kernel, by decide +kernel⟩) hS (fun q _ h => hFc q h) hFc (fun u t H1 locs ht hvm hw hB hz1 hk1 hS => ?_)
  obtain ⟨a16, k16⟩ := u
  obtain ⟨hP1, hK1, hD1⟩ := hB
  rw [ht] at hP1
  have hK1 := va_K.moved hvm.symm hK1
  try dsimp only at hw
  obtain ⟨hP, hD⟩ := va_join (wr := [(h0, .inr (11, [.ref q6, .null, .null, .null, .int 0, .null, .null, .null, .null, .null, .null])), (q6, .inl (k6, 5, .inl (fun _ => 0)))]) (w1 := [(q12, .inr (9, [.ref (a16 0), .int 0, .int 0, .int (-1), .int 0, .int 0, .int 0, .long 0, .int 0])), ((a16 0), .inl ((k16 0), 64, .inl (fun _ => 0)))]) hP hD [2] [0, 1] rfl rfl (by decide) (by decide) hk1 hFc hP1 hD1
  have hK := hK.app hK1
  generalize H1 = H at hP hS ⊢
  have hP : va_P (dC, dI) vwCl [(h0, .inr (11, [.ref q6, .null, .null, .null, .int 0, .null, .null, .null, .null, .null, .null])), (q6, .inl (k6, 5, .inl (fun _ => 0))), (q12, .inr (9, [.ref (a16 0), .int 0, .int 0, .int (-1), .int 0, .int 0, .int 0, .long 0, .int 0])), ((a16 0), .inl ((k16 0), 64, .inl (fun _ => 0)))] H := hP
  have hD : va_D A [(h0, .inr (11, [.ref q6, .null, .null, .null, .int 0, .null, .null, .null, .null, .null, .null])), (q6, .inl (k6, 5, .inl (fun _ => 0))), (q12, .inr (9, [.ref (a16 0), .int 0, .int 0, .int (-1), .int 0, .int 0, .int 0, .long 0, .int 0])), ((a16 0), .inl ((k16 0), 64, .inl (fun _ => 0)))] := hD
  have hK : va_K (dC, dI) vwCl [(k6, .int), ((k16 0), .byte)] s := hK
  refine W.widen (k := 3) (n := 78) (by decide +kernel) (by decide +kernel) ?_
  refine va_putF (D := (dC, dI)) (ci := 11) (v := .ref q12) (ty := .object "OptimaWorks$Words") (C := RX11) (T := TX11) (N := 11) hx hb hts iX11_init_in11 tyX11 tyX11_ok nmX11 hown hK hP hD hS 0 rfl rfl 1 (by decide) (hts (.fieldLink RX11 16 "OptimaWorks" "words" "LOptimaWorks$Words;") (by decide +kernel)) (fun _ h9 => h9) rfl hin rfl (by decide +kernel) rfl rfl (Nat.le_of_ble_eq_true rfl) dX11_init_19 (fun H locs hP hD hS => ?_)
  have hP : va_P (dC, dI) vwCl [(h0, .inr (11, [.ref q6, .ref q12, .null, .null, .int 0, .null, .null, .null, .null, .null, .null])), (q6, .inl (k6, 5, .inl (fun _ => 0))), (q12, .inr (9, [.ref (a16 0), .int 0, .int 0, .int (-1), .int 0, .int 0, .int 0, .long 0, .int 0])), ((a16 0), .inl ((k16 0), 64, .inl (fun _ => 0)))] H := hP
  have hD : va_D A [(h0, .inr (11, [.ref q6, .ref q12, .null, .null, .int 0, .null, .null, .null, .null, .null, .null])), (q6, .inl (k6, 5, .inl (fun _ => 0))), (q12, .inr (9, [.ref (a16 0), .int 0, .int 0, .int (-1), .int 0, .int 0, .int 0, .long 0, .int 0])), ((a16 0), .inl ((k16 0), 64, .inl (fun _ => 0)))] := hD
  refine lv_aload_n hx hb dX11_init_22 rfl (lv_at hl 0 rfl) ?_
  refine va_new (ci := 1) (fs := [.int 0, .int 0, .int 0, .int 0, .int 0, .int 0, .null, .null, .null, .null, .int 0, .null, .null, .null, .null, .null, .null]) (C := RX1) (T := TX1) (N := 17) hx hb hts iX11_init_in1 tyX1 tyX1_ok hown (hts (.classLink RX11 20 RX1) (by decide +kernel)) (hts (.instantiable RX1 17) (by decide +kernel)) (hts (.initialized RX1) (by decide +kernel)) hK hP hD hS hA rfl (by decide +kernel) (by decide +kernel) (by decide +kernel) dX11_init_23 (fun q23 H hP hD hS => ?_)
  have hP : va_P (dC, dI) vwCl [(h0, .inr (11, [.ref q6, .ref q12, .null, .null, .int 0, .null, .null, .null, .null, .null, .null])), (q6, .inl (k6, 5, .inl (fun _ => 0))), (q12, .inr (9, [.ref (a16 0), .int 0, .int 0, .int (-1), .int 0, .int 0, .int 0, .long 0, .int 0])), ((a16 0), .inl ((k16 0), 64, .inl (fun _ => 0))), (q23, .inr (1, [.int 0, .int 0, .int 0, .int 0, .int 0, .int 0, .null, .null, .null, .null, .int 0, .null, .null, .null, .null, .null, .null]))] H := hP
  have hD : va_D A [(h0, .inr (11, [.ref q6, .ref q12, .null, .null, .int 0, .null, .null, .null, .null, .null, .null])), (q6, .inl (k6, 5, .inl (fun _ => 0))), (q12, .inr (9, [.ref (a16 0), .int 0, .int 0, .int (-1), .int 0, .int 0, .int 0, .long 0, .int 0])), ((a16 0), .inl ((k16 0), 64, .inl (fun _ => 0))), (q23, .inr (1, [.int 0, .int 0, .int 0, .int 0, .int 0, .int 0, .null, .null, .null, .null, .int 0, .null, .null, .null, .null, .null, .null]))] := hD
  refine W.widen (k := 4) (n := 95) (by decide +kernel) (by decide +kernel) ?_
  refine lv_dup hx hb dX11_init_26 rfl ?_
  have hPc := hP.sub (ws' := [(q23, .inr (1, [.int 0, .int 0, .int 0, .int 0, .int 0, .int 0, .null, .null, .null, .null, .int 0, .null, .null, .null, .null, .null, .null]))]) [4] rfl
  have hDc := hD.sub (ws' := [(q23, .inr (1, [.int 0, .int 0, .int 0, .int 0, .int 0, .int 0, .null, .null, .null, .null, .int 0, .null, .null, .null, .null, .null, .null]))]) [4] (by decide) rfl
  have hKc := hK.sub (tys' := []) [] rfl
  have hFc := va_free (wc := [(q23, .inr (1, [.int 0, .int 0, .int 0, .int 0, .int 0, .int 0, .null, .null, .null, .null, .int 0, .null, .null, .null, .null, .null, .null]))]) hD hS hA [4] rfl
  refine va_callv (va_runIN (As := []) (rest := [.ref q23, .ref h0]) ⟨hx, hb, hml, hown, hts⟩ (c_X1_init l dC dI q23 H.size) ⟨va_cnB 0 hts gX11_init_X1_init_n22 rfl rfl rfl hn22 (hts (.initialized RX1) (by decide +kernel)) (by decide +kernel) ⟨by decide +kernel, by decide +kernel⟩, rfl, (hts (.instanceMethod yX1_init) (by decide +kernel))⟩ ⟨fun a U g mk q => by obtain ⟨q0, q1, qP, qK, qD⟩ := q; exact ⟨q0, q1, qP, va_K.moved (u := U) (U := U.calling g mk a) (Vm.Alike.refl U.vm) qK, qD⟩, fun U hU hW => ⟨rfl, by rw [hU], by rw [hU]; exact hPc, va_K.moved hW.alike hKc, hDc.weaken (fun _ _ _ _ => trivial)⟩⟩ rfl rfl hl.1 rfl (lv_room (Nat.le_of_ble_eq_true rfl)) dX11_init_27 ⟨by decide +kernel, by decide +kernel⟩) hS (fun q _ h => hFc q h) hFc (fun u t H1 locs ht hvm hw hB hz1 hk1 hS => ?_)
  obtain ⟨a27, k27⟩ := u
  obtain ⟨hP1, hK1, hD1⟩ := hB
  rw [ht] at hP1
  have hK1 := va_K.moved hvm.symm hK1
  try dsimp only at hw
  obtain ⟨hP, hD⟩ := va_join (wr := [(h0, .inr (11, [.ref q6, .ref q12, .null, .null, .int 0, .null, .null, .null, .null, .null, .null])), (q6, .inl (k6, 5, .inl (fun _ => 0))), (q12, .inr (9, [.ref (a16 0), .int 0, .int 0, .int (-1), .int 0, .int 0, .int 0, .long 0, .int 0])), ((a16 0), .inl ((k16 0), 64, .inl (fun _ => 0)))]) (w1 := [(q23, .inr (1, [.int 0, .int 0, .int 0, .int 0, .int 0, .int 0, .ref (a27 0), .ref (a27 1), .ref (a27 2), .ref (a27 3), .int 0, .ref (a27 4), .ref (a27 5), .ref (a27 6), .ref (a27 7), .ref (a27 8), .ref (a27 9)])), ((a27 0), .inl ((k27 0), 8, .inl (fun _ => 0))), ((a27 1), .inl ((k27 1), 8, .inl (fun _ => 0))), ((a27 2), .inl ((k27 2), 8, .inl (fun _ => 0))), ((a27 3), .inl ((k27 3), 12, .inl (fun _ => 0))), ((a27 4), .inl ((k27 4), 12, .inl (fun _ => 0))), ((a27 5), .inl ((k27 5), 360, .inl (fun _ => 0))), ((a27 6), .inl ((k27 6), 27, .inl (fun _ => 0))), ((a27 7), .inl ((k27 7), 27, .inl (fun _ => 0))), ((a27 8), .inl ((k27 8), 3, .inl (fun _ => 0))), ((a27 9), .inl ((k27 9), 8, .inl (fun _ => 0)))]) hP hD [4] [0, 1, 2, 3] rfl rfl (by decide) (by decide) hk1 hFc hP1 hD1
  have hK := hK.app hK1
  generalize H1 = H at hP hS ⊢
  have hP : va_P (dC, dI) vwCl [(h0, .inr (11, [.ref q6, .ref q12, .null, .null, .int 0, .null, .null, .null, .null, .null, .null])), (q6, .inl (k6, 5, .inl (fun _ => 0))), (q12, .inr (9, [.ref (a16 0), .int 0, .int 0, .int (-1), .int 0, .int 0, .int 0, .long 0, .int 0])), ((a16 0), .inl ((k16 0), 64, .inl (fun _ => 0))), (q23, .inr (1, [.int 0, .int 0, .int 0, .int 0, .int 0, .int 0, .ref (a27 0), .ref (a27 1), .ref (a27 2), .ref (a27 3), .int 0, .ref (a27 4), .ref (a27 5), .ref (a27 6), .ref (a27 7), .ref (a27 8), .ref (a27 9)])), ((a27 0), .inl ((k27 0), 8, .inl (fun _ => 0))), ((a27 1), .inl ((k27 1), 8, .inl (fun _ => 0))), ((a27 2), .inl ((k27 2), 8, .inl (fun _ => 0))), ((a27 3), .inl ((k27 3), 12, .inl (fun _ => 0))), ((a27 4), .inl ((k27 4), 12, .inl (fun _ => 0))), ((a27 5), .inl ((k27 5), 360, .inl (fun _ => 0))), ((a27 6), .inl ((k27 6), 27, .inl (fun _ => 0))), ((a27 7), .inl ((k27 7), 27, .inl (fun _ => 0))), ((a27 8), .inl ((k27 8), 3, .inl (fun _ => 0))), ((a27 9), .inl ((k27 9), 8, .inl (fun _ => 0)))] H := hP
  have hD : va_D A [(h0, .inr (11, [.ref q6, .ref q12, .null, .null, .int 0, .null, .null, .null, .null, .null, .null])), (q6, .inl (k6, 5, .inl (fun _ => 0))), (q12, .inr (9, [.ref (a16 0), .int 0, .int 0, .int (-1), .int 0, .int 0, .int 0, .long 0, .int 0])), ((a16 0), .inl ((k16 0), 64, .inl (fun _ => 0))), (q23, .inr (1, [.int 0, .int 0, .int 0, .int 0, .int 0, .int 0, .ref (a27 0), .ref (a27 1), .ref (a27 2), .ref (a27 3), .int 0, .ref (a27 4), .ref (a27 5), .ref (a27 6), .ref (a27 7), .ref (a27 8), .ref (a27 9)])), ((a27 0), .inl ((k27 0), 8, .inl (fun _ => 0))), ((a27 1), .inl ((k27 1), 8, .inl (fun _ => 0))), ((a27 2), .inl ((k27 2), 8, .inl (fun _ => 0))), ((a27 3), .inl ((k27 3), 12, .inl (fun _ => 0))), ((a27 4), .inl ((k27 4), 12, .inl (fun _ => 0))), ((a27 5), .inl ((k27 5), 360, .inl (fun _ => 0))), ((a27 6), .inl ((k27 6), 27, .inl (fun _ => 0))), ((a27 7), .inl ((k27 7), 27, .inl (fun _ => 0))), ((a27 8), .inl ((k27 8), 3, .inl (fun _ => 0))), ((a27 9), .inl ((k27 9), 8, .inl (fun _ => 0)))] := hD
  have hK : va_K (dC, dI) vwCl [(k6, .int), ((k16 0), .byte), ((k27 0), .int), ((k27 1), .int), ((k27 2), .boolean), ((k27 3), .int), ((k27 4), .int), ((k27 5), .int), ((k27 6), .int), ((k27 7), .int), ((k27 8), .boolean), ((k27 9), .int)] s := hK
  refine W.widen (k := 14) (n := 568) (by decide +kernel) (by decide +kernel) ?_
  refine va_putF (D := (dC, dI)) (ci := 11) (v := .ref q23) (ty := .object "OptimaWorks$Model") (C := RX11) (T := TX11) (N := 11) hx hb hts iX11_init_in11 tyX11 tyX11_ok nmX11 hown hK hP hD hS 0 rfl rfl 2 (by decide) (hts (.fieldLink RX11 23 "OptimaWorks" "model" "LOptimaWorks$Model;") (by decide +kernel)) (fun _ h9 => h9) rfl hin rfl (by decide +kernel) rfl rfl (Nat.le_of_ble_eq_true rfl) dX11_init_30 (fun H locs hP hD hS => ?_)
  have hP : va_P (dC, dI) vwCl [(h0, .inr (11, [.ref q6, .ref q12, .ref q23, .null, .int 0, .null, .null, .null, .null, .null, .null])), (q6, .inl (k6, 5, .inl (fun _ => 0))), (q12, .inr (9, [.ref (a16 0), .int 0, .int 0, .int (-1), .int 0, .int 0, .int 0, .long 0, .int 0])), ((a16 0), .inl ((k16 0), 64, .inl (fun _ => 0))), (q23, .inr (1, [.int 0, .int 0, .int 0, .int 0, .int 0, .int 0, .ref (a27 0), .ref (a27 1), .ref (a27 2), .ref (a27 3), .int 0, .ref (a27 4), .ref (a27 5), .ref (a27 6), .ref (a27 7), .ref (a27 8), .ref (a27 9)])), ((a27 0), .inl ((k27 0), 8, .inl (fun _ => 0))), ((a27 1), .inl ((k27 1), 8, .inl (fun _ => 0))), ((a27 2), .inl ((k27 2), 8, .inl (fun _ => 0))), ((a27 3), .inl ((k27 3), 12, .inl (fun _ => 0))), ((a27 4), .inl ((k27 4), 12, .inl (fun _ => 0))), ((a27 5), .inl ((k27 5), 360, .inl (fun _ => 0))), ((a27 6), .inl ((k27 6), 27, .inl (fun _ => 0))), ((a27 7), .inl ((k27 7), 27, .inl (fun _ => 0))), ((a27 8), .inl ((k27 8), 3, .inl (fun _ => 0))), ((a27 9), .inl ((k27 9), 8, .inl (fun _ => 0)))] H := hP
  have hD : va_D A [(h0, .inr (11, [.ref q6, .ref q12, .ref q23, .null, .int 0, .null, .null, .null, .null, .null, .null])), (q6, .inl (k6, 5, .inl (fun _ => 0))), (q12, .inr (9, [.ref (a16 0), .int 0, .int 0, .int (-1), .int 0, .int 0, .int 0, .long 0, .int 0])), ((a16 0), .inl ((k16 0), 64, .inl (fun _ => 0))), (q23, .inr (1, [.int 0, .int 0, .int 0, .int 0, .int 0, .int 0, .ref (a27 0), .ref (a27 1), .ref (a27 2), .ref (a27 3), .int 0, .ref (a27 4), .ref (a27 5), .ref (a27 6), .ref (a27 7), .ref (a27 8), .ref (a27 9)])), ((a27 0), .inl ((k27 0), 8, .inl (fun _ => 0))), ((a27 1), .inl ((k27 1), 8, .inl (fun _ => 0))), ((a27 2), .inl ((k27 2), 8, .inl (fun _ => 0))), ((a27 3), .inl ((k27 3), 12, .inl (fun _ => 0))), ((a27 4), .inl ((k27 4), 12, .inl (fun _ => 0))), ((a27 5), .inl ((k27 5), 360, .inl (fun _ => 0))), ((a27 6), .inl ((k27 6), 27, .inl (fun _ => 0))), ((a27 7), .inl ((k27 7), 27, .inl (fun _ => 0))), ((a27 8), .inl ((k27 8), 3, .inl (fun _ => 0))), ((a27 9), .inl ((k27 9), 8, .inl (fun _ => 0)))] := hD
  refine lv_aload_n hx hb dX11_init_33 rfl (lv_at hl 0 rfl) ?_
  refine lv_bipush (v := 64) hx hb dX11_init_34 (by decide) ?_
  refine va_newa (atype := .byte) (ty := .byte) (N' := 64) (a0 := (64, .inl (fun _ => 0))) hx hb (hts (.arrayClass .byte) (by decide +kernel)) rfl hK hP hD hS hA (fun _ => rfl) (by decide) (by decide) (by decide +kernel) (by decide +kernel) (by decide +kernel) dX11_init_36 (fun q36 k36 H hK hP hD hS => ?_)
  have hP : va_P (dC, dI) vwCl [(h0, .inr (11, [.ref q6, .ref q12, .ref q23, .null, .int 0, .null, .null, .null, .null, .null, .null])), (q6, .inl (k6, 5, .inl (fun _ => 0))), (q12, .inr (9, [.ref (a16 0), .int 0, .int 0, .int (-1), .int 0, .int 0, .int 0, .long 0, .int 0])), ((a16 0), .inl ((k16 0), 64, .inl (fun _ => 0))), (q23, .inr (1, [.int 0, .int 0, .int 0, .int 0, .int 0, .int 0, .ref (a27 0), .ref (a27 1), .ref (a27 2), .ref (a27 3), .int 0, .ref (a27 4), .ref (a27 5), .ref (a27 6), .ref (a27 7), .ref (a27 8), .ref (a27 9)])), ((a27 0), .inl ((k27 0), 8, .inl (fun _ => 0))), ((a27 1), .inl ((k27 1), 8, .inl (fun _ => 0))), ((a27 2), .inl ((k27 2), 8, .inl (fun _ => 0))), ((a27 3), .inl ((k27 3), 12, .inl (fun _ => 0))), ((a27 4), .inl ((k27 4), 12, .inl (fun _ => 0))), ((a27 5), .inl ((k27 5), 360, .inl (fun _ => 0))), ((a27 6), .inl ((k27 6), 27, .inl (fun _ => 0))), ((a27 7), .inl ((k27 7), 27, .inl (fun _ => 0))), ((a27 8), .inl ((k27 8), 3, .inl (fun _ => 0))), ((a27 9), .inl ((k27 9), 8, .inl (fun _ => 0))), (q36, .inl (k36, 64, .inl (fun _ => 0)))] H := hP
  have hD : va_D A [(h0, .inr (11, [.ref q6, .ref q12, .ref q23, .null, .int 0, .null, .null, .null, .null, .null, .null])), (q6, .inl (k6, 5, .inl (fun _ => 0))), (q12, .inr (9, [.ref (a16 0), .int 0, .int 0, .int (-1), .int 0, .int 0, .int 0, .long 0, .int 0])), ((a16 0), .inl ((k16 0), 64, .inl (fun _ => 0))), (q23, .inr (1, [.int 0, .int 0, .int 0, .int 0, .int 0, .int 0, .ref (a27 0), .ref (a27 1), .ref (a27 2), .ref (a27 3), .int 0, .ref (a27 4), .ref (a27 5), .ref (a27 6), .ref (a27 7), .ref (a27 8), .ref (a27 9)])), ((a27 0), .inl ((k27 0), 8, .inl (fun _ => 0))), ((a27 1), .inl ((k27 1), 8, .inl (fun _ => 0))), ((a27 2), .inl ((k27 2), 8, .inl (fun _ => 0))), ((a27 3), .inl ((k27 3), 12, .inl (fun _ => 0))), ((a27 4), .inl ((k27 4), 12, .inl (fun _ => 0))), ((a27 5), .inl ((k27 5), 360, .inl (fun _ => 0))), ((a27 6), .inl ((k27 6), 27, .inl (fun _ => 0))), ((a27 7), .inl ((k27 7), 27, .inl (fun _ => 0))), ((a27 8), .inl ((k27 8), 3, .inl (fun _ => 0))), ((a27 9), .inl ((k27 9), 8, .inl (fun _ => 0))), (q36, .inl (k36, 64, .inl (fun _ => 0)))] := hD
  have hK : va_K (dC, dI) vwCl [(k6, .int), ((k16 0), .byte), ((k27 0), .int), ((k27 1), .int), ((k27 2), .boolean), ((k27 3), .int), ((k27 4), .int), ((k27 5), .int), ((k27 6), .int), ((k27 7), .int), ((k27 8), .boolean), ((k27 9), .int), (k36, .byte)] s := hK
  refine W.widen (k := 15) (n := 632) (by decide +kernel) (by decide +kernel) ?_
  refine va_put (D := (dC, dI)) (ci := 11) (v := .ref q36) (ty := .array .byte) (C := RX11) (T := TX11) (N := 11) hx hb hts iX11_init_in11 tyX11 tyX11_ok nmX11 hown hK hP hD hS 0 rfl rfl 3 (by decide) (hts (.fieldLink RX11 27 "OptimaWorks" "sheet" "[B") (by decide +kernel)) (fun _ h9 => h9) rfl (by decide +kernel) rfl rfl (Nat.le_of_ble_eq_true rfl) dX11_init_38 (fun H locs hP hD hS => ?_)
  have hP : va_P (dC, dI) vwCl [(h0, .inr (11, [.ref q6, .ref q12, .ref q23, .ref q36, .int 0, .null, .null, .null, .null, .null, .null])), (q6, .inl (k6, 5, .inl (fun _ => 0))), (q12, .inr (9, [.ref (a16 0), .int 0, .int 0, .int (-1), .int 0, .int 0, .int 0, .long 0, .int 0])), ((a16 0), .inl ((k16 0), 64, .inl (fun _ => 0))), (q23, .inr (1, [.int 0, .int 0, .int 0, .int 0, .int 0, .int 0, .ref (a27 0), .ref (a27 1), .ref (a27 2), .ref (a27 3), .int 0, .ref (a27 4), .ref (a27 5), .ref (a27 6), .ref (a27 7), .ref (a27 8), .ref (a27 9)])), ((a27 0), .inl ((k27 0), 8, .inl (fun _ => 0))), ((a27 1), .inl ((k27 1), 8, .inl (fun _ => 0))), ((a27 2), .inl ((k27 2), 8, .inl (fun _ => 0))), ((a27 3), .inl ((k27 3), 12, .inl (fun _ => 0))), ((a27 4), .inl ((k27 4), 12, .inl (fun _ => 0))), ((a27 5), .inl ((k27 5), 360, .inl (fun _ => 0))), ((a27 6), .inl ((k27 6), 27, .inl (fun _ => 0))), ((a27 7), .inl ((k27 7), 27, .inl (fun _ => 0))), ((a27 8), .inl ((k27 8), 3, .inl (fun _ => 0))), ((a27 9), .inl ((k27 9), 8, .inl (fun _ => 0))), (q36, .inl (k36, 64, .inl (fun _ => 0)))] H := hP
  have hD : va_D A [(h0, .inr (11, [.ref q6, .ref q12, .ref q23, .ref q36, .int 0, .null, .null, .null, .null, .null, .null])), (q6, .inl (k6, 5, .inl (fun _ => 0))), (q12, .inr (9, [.ref (a16 0), .int 0, .int 0, .int (-1), .int 0, .int 0, .int 0, .long 0, .int 0])), ((a16 0), .inl ((k16 0), 64, .inl (fun _ => 0))), (q23, .inr (1, [.int 0, .int 0, .int 0, .int 0, .int 0, .int 0, .ref (a27 0), .ref (a27 1), .ref (a27 2), .ref (a27 3), .int 0, .ref (a27 4), .ref (a27 5), .ref (a27 6), .ref (a27 7), .ref (a27 8), .ref (a27 9)])), ((a27 0), .inl ((k27 0), 8, .inl (fun _ => 0))), ((a27 1), .inl ((k27 1), 8, .inl (fun _ => 0))), ((a27 2), .inl ((k27 2), 8, .inl (fun _ => 0))), ((a27 3), .inl ((k27 3), 12, .inl (fun _ => 0))), ((a27 4), .inl ((k27 4), 12, .inl (fun _ => 0))), ((a27 5), .inl ((k27 5), 360, .inl (fun _ => 0))), ((a27 6), .inl ((k27 6), 27, .inl (fun _ => 0))), ((a27 7), .inl ((k27 7), 27, .inl (fun _ => 0))), ((a27 8), .inl ((k27 8), 3, .inl (fun _ => 0))), ((a27 9), .inl ((k27 9), 8, .inl (fun _ => 0))), (q36, .inl (k36, 64, .inl (fun _ => 0)))] := hD
  refine W.widen (k := 15) (n := 632) (by decide +kernel) (by decide +kernel) ?_
  exact W.vret hx hb hr (fun t ht hW => ⟨⟨((fun n => [q6, q12, (a16 0), q23, (a27 0), (a27 1), (a27 2), (a27 3), (a27 4), (a27 5), (a27 6), (a27 7), (a27 8), (a27 9), q36].getD n 0), (fun n => [k6, (k16 0), (k27 0), (k27 1), (k27 2), (k27 3), (k27 4), (k27 5), (k27 6), (k27 7), (k27 8), (k27 9), k36].getD n k6)), rfl, trivial, by rw [ht]; exact hP, va_K.moved hW.alike hK, hD⟩, hS.F ht⟩) hS.2.2 dX11_init_41
end
