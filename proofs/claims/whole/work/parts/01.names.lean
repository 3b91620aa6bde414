-- ===== PART A: goes FIRST, ahead of the names: the tables' words, and 'selects' of the private methods out of them =====
/-- a private method of a class that the tables say can be made, by its rows of tables_1 -/
def lw_okq (q : MethodName × Nat) : Prop := (q.1.cls ≠ "java/lang/invoke/MethodHandle" ∧ q.1.cls ≠ "java/lang/invoke/VarHandle") ∧ Cond.instantiable q.1.cls q.2 ∈ tables_1 ∧ Cond.privateMethod q.1 ∈ tables_1 ∧ Cond.instanceMethod q.1 ∈ tables_1
theorem lw_p0 : lw_okq (⟨"SoleraCellar", "refuse", "(I)I"⟩, 15) := ⟨⟨by decide +kernel, by decide +kernel⟩, List.mem_of_getElem? (i := 18) (by decide +kernel), List.mem_of_getElem? (i := 351) (by decide +kernel), List.mem_of_getElem? (i := 352) (by decide +kernel)⟩
theorem lw_p1 : lw_okq (⟨"SoleraCellar", "accept", "(I)I"⟩, 15) := ⟨⟨by decide +kernel, by decide +kernel⟩, List.mem_of_getElem? (i := 18) (by decide +kernel), List.mem_of_getElem? (i := 363) (by decide +kernel), List.mem_of_getElem? (i := 364) (by decide +kernel)⟩
theorem lw_p2 : lw_okq (⟨"SoleraCellar$Asker", "put", "(I)V"⟩, 6) := ⟨⟨by decide +kernel, by decide +kernel⟩, List.mem_of_getElem? (i := 242) (by decide +kernel), List.mem_of_getElem? (i := 424) (by decide +kernel), List.mem_of_getElem? (i := 425) (by decide +kernel)⟩
theorem lw_p3 : lw_okq (⟨"SoleraCellar$Asker", "valueOfCellar", "(I)I"⟩, 6) := ⟨⟨by decide +kernel, by decide +kernel⟩, List.mem_of_getElem? (i := 242) (by decide +kernel), List.mem_of_getElem? (i := 428) (by decide +kernel), List.mem_of_getElem? (i := 429) (by decide +kernel)⟩
theorem lw_p4 : lw_okq (⟨"SoleraCellar$Asker", "valueOfCask", "(II)I"⟩, 6) := ⟨⟨by decide +kernel, by decide +kernel⟩, List.mem_of_getElem? (i := 242) (by decide +kernel), List.mem_of_getElem? (i := 432) (by decide +kernel), List.mem_of_getElem? (i := 433) (by decide +kernel)⟩
theorem lw_p5 : lw_okq (⟨"SoleraCellar$Asker", "lift", "()I"⟩, 6) := ⟨⟨by decide +kernel, by decide +kernel⟩, List.mem_of_getElem? (i := 242) (by decide +kernel), List.mem_of_getElem? (i := 446) (by decide +kernel), List.mem_of_getElem? (i := 447) (by decide +kernel)⟩
theorem lw_p6 : lw_okq (⟨"SoleraCellar$Asker", "joins", "(I)Z"⟩, 6) := ⟨⟨by decide +kernel, by decide +kernel⟩, List.mem_of_getElem? (i := 242) (by decide +kernel), List.mem_of_getElem? (i := 451) (by decide +kernel), List.mem_of_getElem? (i := 452) (by decide +kernel)⟩
theorem lw_p7 : lw_okq (⟨"SoleraCellar", "cameFromTape", "(I)Z"⟩, 15) := ⟨⟨by decide +kernel, by decide +kernel⟩, List.mem_of_getElem? (i := 18) (by decide +kernel), List.mem_of_getElem? (i := 497) (by decide +kernel), List.mem_of_getElem? (i := 498) (by decide +kernel)⟩
theorem lw_p8 : lw_okq (⟨"SoleraCellar$Reader", "next", "()V"⟩, 10) := ⟨⟨by decide +kernel, by decide +kernel⟩, List.mem_of_getElem? (i := 44) (by decide +kernel), List.mem_of_getElem? (i := 522) (by decide +kernel), List.mem_of_getElem? (i := 523) (by decide +kernel)⟩
theorem lw_p9 : lw_okq (⟨"SoleraCellar$Reader", "clause", "()Z"⟩, 10) := ⟨⟨by decide +kernel, by decide +kernel⟩, List.mem_of_getElem? (i := 44) (by decide +kernel), List.mem_of_getElem? (i := 527) (by decide +kernel), List.mem_of_getElem? (i := 528) (by decide +kernel)⟩
theorem lw_p10 : lw_okq (⟨"SoleraCellar$Reader", "lawVerb", "()I"⟩, 10) := ⟨⟨by decide +kernel, by decide +kernel⟩, List.mem_of_getElem? (i := 44) (by decide +kernel), List.mem_of_getElem? (i := 531) (by decide +kernel), List.mem_of_getElem? (i := 532) (by decide +kernel)⟩
theorem lw_p11 : lw_okq (⟨"SoleraCellar$Reader", "is", "(Ljava/lang/String;)Z"⟩, 10) := ⟨⟨by decide +kernel, by decide +kernel⟩, List.mem_of_getElem? (i := 44) (by decide +kernel), List.mem_of_getElem? (i := 536) (by decide +kernel), List.mem_of_getElem? (i := 537) (by decide +kernel)⟩
theorem lw_p12 : lw_okq (⟨"SoleraCellar$Reader", "orderVerb", "()I"⟩, 10) := ⟨⟨by decide +kernel, by decide +kernel⟩, List.mem_of_getElem? (i := 44) (by decide +kernel), List.mem_of_getElem? (i := 590) (by decide +kernel), List.mem_of_getElem? (i := 591) (by decide +kernel)⟩
theorem lw_p13 : lw_okq (⟨"SoleraCellar$Reader", "wrong", "()Z"⟩, 10) := ⟨⟨by decide +kernel, by decide +kernel⟩, List.mem_of_getElem? (i := 44) (by decide +kernel), List.mem_of_getElem? (i := 598) (by decide +kernel), List.mem_of_getElem? (i := 599) (by decide +kernel)⟩
theorem lw_p14 : lw_okq (⟨"SoleraCellar$Reader", "sum", "()Z"⟩, 10) := ⟨⟨by decide +kernel, by decide +kernel⟩, List.mem_of_getElem? (i := 44) (by decide +kernel), List.mem_of_getElem? (i := 615) (by decide +kernel), List.mem_of_getElem? (i := 616) (by decide +kernel)⟩
theorem lw_p15 : lw_okq (⟨"SoleraCellar$Reader", "term", "()Z"⟩, 10) := ⟨⟨by decide +kernel, by decide +kernel⟩, List.mem_of_getElem? (i := 44) (by decide +kernel), List.mem_of_getElem? (i := 619) (by decide +kernel), List.mem_of_getElem? (i := 620) (by decide +kernel)⟩
def lw_privs_1 : List (MethodName × Nat) := [(⟨"SoleraCellar", "refuse", "(I)I"⟩, 15), (⟨"SoleraCellar", "accept", "(I)I"⟩, 15), (⟨"SoleraCellar$Asker", "put", "(I)V"⟩, 6), (⟨"SoleraCellar$Asker", "valueOfCellar", "(I)I"⟩, 6), (⟨"SoleraCellar$Asker", "valueOfCask", "(II)I"⟩, 6), (⟨"SoleraCellar$Asker", "lift", "()I"⟩, 6), (⟨"SoleraCellar$Asker", "joins", "(I)Z"⟩, 6), (⟨"SoleraCellar", "cameFromTape", "(I)Z"⟩, 15), (⟨"SoleraCellar$Reader", "next", "()V"⟩, 10), (⟨"SoleraCellar$Reader", "clause", "()Z"⟩, 10), (⟨"SoleraCellar$Reader", "lawVerb", "()I"⟩, 10), (⟨"SoleraCellar$Reader", "is", "(Ljava/lang/String;)Z"⟩, 10), (⟨"SoleraCellar$Reader", "orderVerb", "()I"⟩, 10), (⟨"SoleraCellar$Reader", "wrong", "()Z"⟩, 10), (⟨"SoleraCellar$Reader", "sum", "()Z"⟩, 10), (⟨"SoleraCellar$Reader", "term", "()Z"⟩, 10)]
theorem lw_r1 : ∀ q ∈ lw_privs_1, lw_okq q := List.forall_mem_cons.mpr ⟨lw_p0, List.forall_mem_cons.mpr ⟨lw_p1, List.forall_mem_cons.mpr ⟨lw_p2, List.forall_mem_cons.mpr ⟨lw_p3, List.forall_mem_cons.mpr ⟨lw_p4, List.forall_mem_cons.mpr ⟨lw_p5, List.forall_mem_cons.mpr ⟨lw_p6, List.forall_mem_cons.mpr ⟨lw_p7, List.forall_mem_cons.mpr ⟨lw_p8, List.forall_mem_cons.mpr ⟨lw_p9, List.forall_mem_cons.mpr ⟨lw_p10, List.forall_mem_cons.mpr ⟨lw_p11, List.forall_mem_cons.mpr ⟨lw_p12, List.forall_mem_cons.mpr ⟨lw_p13, List.forall_mem_cons.mpr ⟨lw_p14, List.forall_mem_cons.mpr ⟨lw_p15, fun _ h => absurd h List.not_mem_nil⟩⟩⟩⟩⟩⟩⟩⟩⟩⟩⟩⟩⟩⟩⟩⟩
theorem lw_p16 : lw_okq (⟨"SoleraCellar$Reader", "part", "()Z"⟩, 10) := ⟨⟨by decide +kernel, by decide +kernel⟩, List.mem_of_getElem? (i := 44) (by decide +kernel), List.mem_of_getElem? (i := 623) (by decide +kernel), List.mem_of_getElem? (i := 624) (by decide +kernel)⟩
theorem lw_p17 : lw_okq (⟨"SoleraCellar$Reader", "enters", "()Z"⟩, 10) := ⟨⟨by decide +kernel, by decide +kernel⟩, List.mem_of_getElem? (i := 44) (by decide +kernel), List.mem_of_getElem? (i := 628) (by decide +kernel), List.mem_of_getElem? (i := 629) (by decide +kernel)⟩
theorem lw_p18 : lw_okq (⟨"SoleraCellar$Reader", "leaves", "(Ljava/lang/String;)Z"⟩, 10) := ⟨⟨by decide +kernel, by decide +kernel⟩, List.mem_of_getElem? (i := 44) (by decide +kernel), List.mem_of_getElem? (i := 633) (by decide +kernel), List.mem_of_getElem? (i := 634) (by decide +kernel)⟩
theorem lw_p19 : lw_okq (⟨"SoleraCellar$Reader", "lawWord", "()I"⟩, 10) := ⟨⟨by decide +kernel, by decide +kernel⟩, List.mem_of_getElem? (i := 44) (by decide +kernel), List.mem_of_getElem? (i := 637) (by decide +kernel), List.mem_of_getElem? (i := 638) (by decide +kernel)⟩
theorem lw_p20 : lw_okq (⟨"SoleraCellar$Reader", "orderWord", "()I"⟩, 10) := ⟨⟨by decide +kernel, by decide +kernel⟩, List.mem_of_getElem? (i := 44) (by decide +kernel), List.mem_of_getElem? (i := 648) (by decide +kernel), List.mem_of_getElem? (i := 649) (by decide +kernel)⟩
theorem lw_p21 : lw_okq (⟨"SoleraCellar$Reader", "wordWritten", "(I)Z"⟩, 10) := ⟨⟨by decide +kernel, by decide +kernel⟩, List.mem_of_getElem? (i := 44) (by decide +kernel), List.mem_of_getElem? (i := 660) (by decide +kernel), List.mem_of_getElem? (i := 661) (by decide +kernel)⟩
theorem lw_p22 : lw_okq (⟨"SoleraCellar$Reader", "repeated", "()Z"⟩, 10) := ⟨⟨by decide +kernel, by decide +kernel⟩, List.mem_of_getElem? (i := 44) (by decide +kernel), List.mem_of_getElem? (i := 670) (by decide +kernel), List.mem_of_getElem? (i := 671) (by decide +kernel)⟩
theorem lw_p23 : lw_okq (⟨"SoleraCellar$Reader", "test", "()Z"⟩, 10) := ⟨⟨by decide +kernel, by decide +kernel⟩, List.mem_of_getElem? (i := 44) (by decide +kernel), List.mem_of_getElem? (i := 680) (by decide +kernel), List.mem_of_getElem? (i := 681) (by decide +kernel)⟩
theorem lw_p24 : lw_okq (⟨"SoleraCellar$Reader", "both", "()Z"⟩, 10) := ⟨⟨by decide +kernel, by decide +kernel⟩, List.mem_of_getElem? (i := 44) (by decide +kernel), List.mem_of_getElem? (i := 684) (by decide +kernel), List.mem_of_getElem? (i := 685) (by decide +kernel)⟩
theorem lw_p25 : lw_okq (⟨"SoleraCellar$Reader", "plain", "()Z"⟩, 10) := ⟨⟨by decide +kernel, by decide +kernel⟩, List.mem_of_getElem? (i := 44) (by decide +kernel), List.mem_of_getElem? (i := 688) (by decide +kernel), List.mem_of_getElem? (i := 689) (by decide +kernel)⟩
theorem lw_p26 : lw_okq (⟨"SoleraCellar$Reader", "compared", "()Z"⟩, 10) := ⟨⟨by decide +kernel, by decide +kernel⟩, List.mem_of_getElem? (i := 44) (by decide +kernel), List.mem_of_getElem? (i := 695) (by decide +kernel), List.mem_of_getElem? (i := 696) (by decide +kernel)⟩
theorem lw_p27 : lw_okq (⟨"SoleraCellar", "startPaper", "()V"⟩, 15) := ⟨⟨by decide +kernel, by decide +kernel⟩, List.mem_of_getElem? (i := 18) (by decide +kernel), List.mem_of_getElem? (i := 727) (by decide +kernel), List.mem_of_getElem? (i := 728) (by decide +kernel)⟩
theorem lw_p28 : lw_okq (⟨"SoleraCellar$Worker", "step", "(LSoleraCellar$Text;I)I"⟩, 7) := ⟨⟨by decide +kernel, by decide +kernel⟩, List.mem_of_getElem? (i := 234) (by decide +kernel), List.mem_of_getElem? (i := 749) (by decide +kernel), List.mem_of_getElem? (i := 750) (by decide +kernel)⟩
theorem lw_p29 : lw_okq (⟨"SoleraCellar", "startWork", "()V"⟩, 15) := ⟨⟨by decide +kernel, by decide +kernel⟩, List.mem_of_getElem? (i := 18) (by decide +kernel), List.mem_of_getElem? (i := 817) (by decide +kernel), List.mem_of_getElem? (i := 818) (by decide +kernel)⟩
theorem lw_p30 : lw_okq (⟨"SoleraCellar", "finishWork", "(II)I"⟩, 15) := ⟨⟨by decide +kernel, by decide +kernel⟩, List.mem_of_getElem? (i := 18) (by decide +kernel), List.mem_of_getElem? (i := 823) (by decide +kernel), List.mem_of_getElem? (i := 824) (by decide +kernel)⟩
theorem lw_p31 : lw_okq (⟨"SoleraCellar", "fitsAllTasted", "(I)Z"⟩, 15) := ⟨⟨by decide +kernel, by decide +kernel⟩, List.mem_of_getElem? (i := 18) (by decide +kernel), List.mem_of_getElem? (i := 896) (by decide +kernel), List.mem_of_getElem? (i := 897) (by decide +kernel)⟩
def lw_privs_2 : List (MethodName × Nat) := [(⟨"SoleraCellar$Reader", "part", "()Z"⟩, 10), (⟨"SoleraCellar$Reader", "enters", "()Z"⟩, 10), (⟨"SoleraCellar$Reader", "leaves", "(Ljava/lang/String;)Z"⟩, 10), (⟨"SoleraCellar$Reader", "lawWord", "()I"⟩, 10), (⟨"SoleraCellar$Reader", "orderWord", "()I"⟩, 10), (⟨"SoleraCellar$Reader", "wordWritten", "(I)Z"⟩, 10), (⟨"SoleraCellar$Reader", "repeated", "()Z"⟩, 10), (⟨"SoleraCellar$Reader", "test", "()Z"⟩, 10), (⟨"SoleraCellar$Reader", "both", "()Z"⟩, 10), (⟨"SoleraCellar$Reader", "plain", "()Z"⟩, 10), (⟨"SoleraCellar$Reader", "compared", "()Z"⟩, 10), (⟨"SoleraCellar", "startPaper", "()V"⟩, 15), (⟨"SoleraCellar$Worker", "step", "(LSoleraCellar$Text;I)I"⟩, 7), (⟨"SoleraCellar", "startWork", "()V"⟩, 15), (⟨"SoleraCellar", "finishWork", "(II)I"⟩, 15), (⟨"SoleraCellar", "fitsAllTasted", "(I)Z"⟩, 15)]
theorem lw_r2 : ∀ q ∈ lw_privs_2, lw_okq q := List.forall_mem_cons.mpr ⟨lw_p16, List.forall_mem_cons.mpr ⟨lw_p17, List.forall_mem_cons.mpr ⟨lw_p18, List.forall_mem_cons.mpr ⟨lw_p19, List.forall_mem_cons.mpr ⟨lw_p20, List.forall_mem_cons.mpr ⟨lw_p21, List.forall_mem_cons.mpr ⟨lw_p22, List.forall_mem_cons.mpr ⟨lw_p23, List.forall_mem_cons.mpr ⟨lw_p24, List.forall_mem_cons.mpr ⟨lw_p25, List.forall_mem_cons.mpr ⟨lw_p26, List.forall_mem_cons.mpr ⟨lw_p27, List.forall_mem_cons.mpr ⟨lw_p28, List.forall_mem_cons.mpr ⟨lw_p29, List.forall_mem_cons.mpr ⟨lw_p30, List.forall_mem_cons.mpr ⟨lw_p31, fun _ h => absurd h List.not_mem_nil⟩⟩⟩⟩⟩⟩⟩⟩⟩⟩⟩⟩⟩⟩⟩⟩
theorem lw_p32 : lw_okq (⟨"SoleraCellar", "factOf", "(II)I"⟩, 15) := ⟨⟨by decide +kernel, by decide +kernel⟩, List.mem_of_getElem? (i := 18) (by decide +kernel), List.mem_of_getElem? (i := 900) (by decide +kernel), List.mem_of_getElem? (i := 901) (by decide +kernel)⟩
theorem lw_p33 : lw_okq (⟨"SoleraCellar", "mostAlike", "(II)I"⟩, 15) := ⟨⟨by decide +kernel, by decide +kernel⟩, List.mem_of_getElem? (i := 18) (by decide +kernel), List.mem_of_getElem? (i := 910) (by decide +kernel), List.mem_of_getElem? (i := 911) (by decide +kernel)⟩
theorem lw_p34 : lw_okq (⟨"SoleraCellarModel", "tell", "(I)I"⟩, 55) := ⟨⟨by decide +kernel, by decide +kernel⟩, List.mem_of_getElem? (i := 968) (by decide +kernel), List.mem_of_getElem? (i := 1162) (by decide +kernel), List.mem_of_getElem? (i := 1163) (by decide +kernel)⟩
theorem lw_p35 : lw_okq (⟨"SoleraCellarModel", "putBack", "(I)V"⟩, 55) := ⟨⟨by decide +kernel, by decide +kernel⟩, List.mem_of_getElem? (i := 968) (by decide +kernel), List.mem_of_getElem? (i := 1166) (by decide +kernel), List.mem_of_getElem? (i := 1167) (by decide +kernel)⟩
theorem lw_p36 : lw_okq (⟨"SoleraCellarModel", "lasting", "(I)I"⟩, 55) := ⟨⟨by decide +kernel, by decide +kernel⟩, List.mem_of_getElem? (i := 968) (by decide +kernel), List.mem_of_getElem? (i := 1181) (by decide +kernel), List.mem_of_getElem? (i := 1182) (by decide +kernel)⟩
theorem lw_p37 : lw_okq (⟨"SoleraCellarModel", "comes", "(II)I"⟩, 55) := ⟨⟨by decide +kernel, by decide +kernel⟩, List.mem_of_getElem? (i := 968) (by decide +kernel), List.mem_of_getElem? (i := 1189) (by decide +kernel), List.mem_of_getElem? (i := 1190) (by decide +kernel)⟩
theorem lw_p38 : lw_okq (⟨"SoleraCellarModel", "isCask", "(I)Z"⟩, 55) := ⟨⟨by decide +kernel, by decide +kernel⟩, List.mem_of_getElem? (i := 968) (by decide +kernel), List.mem_of_getElem? (i := 1199) (by decide +kernel), List.mem_of_getElem? (i := 1200) (by decide +kernel)⟩
theorem lw_p39 : lw_okq (⟨"SoleraCellarModel", "allOf", "(I)I"⟩, 55) := ⟨⟨by decide +kernel, by decide +kernel⟩, List.mem_of_getElem? (i := 968) (by decide +kernel), List.mem_of_getElem? (i := 1203) (by decide +kernel), List.mem_of_getElem? (i := 1204) (by decide +kernel)⟩
theorem lw_p40 : lw_okq (⟨"SoleraCellarModel", "dropsOf", "(II)I"⟩, 55) := ⟨⟨by decide +kernel, by decide +kernel⟩, List.mem_of_getElem? (i := 968) (by decide +kernel), List.mem_of_getElem? (i := 1207) (by decide +kernel), List.mem_of_getElem? (i := 1208) (by decide +kernel)⟩
theorem lw_p41 : lw_okq (⟨"SoleraCellarModel", "meanOf", "(I)I"⟩, 55) := ⟨⟨by decide +kernel, by decide +kernel⟩, List.mem_of_getElem? (i := 968) (by decide +kernel), List.mem_of_getElem? (i := 1211) (by decide +kernel), List.mem_of_getElem? (i := 1212) (by decide +kernel)⟩
theorem lw_p42 : lw_okq (⟨"SoleraCellarModel", "labelOf", "(I)I"⟩, 55) := ⟨⟨by decide +kernel, by decide +kernel⟩, List.mem_of_getElem? (i := 968) (by decide +kernel), List.mem_of_getElem? (i := 1216) (by decide +kernel), List.mem_of_getElem? (i := 1217) (by decide +kernel)⟩
theorem lw_p43 : lw_okq (⟨"SoleraCellarModel", "olderThan", "(II)I"⟩, 55) := ⟨⟨by decide +kernel, by decide +kernel⟩, List.mem_of_getElem? (i := 968) (by decide +kernel), List.mem_of_getElem? (i := 1221) (by decide +kernel), List.mem_of_getElem? (i := 1222) (by decide +kernel)⟩
theorem lw_p44 : lw_okq (⟨"SoleraCellarModel", "losesOf", "(I)I"⟩, 55) := ⟨⟨by decide +kernel, by decide +kernel⟩, List.mem_of_getElem? (i := 968) (by decide +kernel), List.mem_of_getElem? (i := 1225) (by decide +kernel), List.mem_of_getElem? (i := 1226) (by decide +kernel)⟩
theorem lw_p45 : lw_okq (⟨"SoleraCellarModel", "tells", "(IIJ)J"⟩, 55) := ⟨⟨by decide +kernel, by decide +kernel⟩, List.mem_of_getElem? (i := 968) (by decide +kernel), List.mem_of_getElem? (i := 1229) (by decide +kernel), List.mem_of_getElem? (i := 1230) (by decide +kernel)⟩
theorem lw_p46 : lw_okq (⟨"SoleraCellarModel", "wholeMean", "(I)I"⟩, 55) := ⟨⟨by decide +kernel, by decide +kernel⟩, List.mem_of_getElem? (i := 968) (by decide +kernel), List.mem_of_getElem? (i := 1233) (by decide +kernel), List.mem_of_getElem? (i := 1234) (by decide +kernel)⟩
theorem lw_p47 : lw_okq (⟨"SoleraCellarModel", "isSo", "(I)Z"⟩, 55) := ⟨⟨by decide +kernel, by decide +kernel⟩, List.mem_of_getElem? (i := 968) (by decide +kernel), List.mem_of_getElem? (i := 1237) (by decide +kernel), List.mem_of_getElem? (i := 1238) (by decide +kernel)⟩
def lw_privs_3 : List (MethodName × Nat) := [(⟨"SoleraCellar", "factOf", "(II)I"⟩, 15), (⟨"SoleraCellar", "mostAlike", "(II)I"⟩, 15), (⟨"SoleraCellarModel", "tell", "(I)I"⟩, 55), (⟨"SoleraCellarModel", "putBack", "(I)V"⟩, 55), (⟨"SoleraCellarModel", "lasting", "(I)I"⟩, 55), (⟨"SoleraCellarModel", "comes", "(II)I"⟩, 55), (⟨"SoleraCellarModel", "isCask", "(I)Z"⟩, 55), (⟨"SoleraCellarModel", "allOf", "(I)I"⟩, 55), (⟨"SoleraCellarModel", "dropsOf", "(II)I"⟩, 55), (⟨"SoleraCellarModel", "meanOf", "(I)I"⟩, 55), (⟨"SoleraCellarModel", "labelOf", "(I)I"⟩, 55), (⟨"SoleraCellarModel", "olderThan", "(II)I"⟩, 55), (⟨"SoleraCellarModel", "losesOf", "(I)I"⟩, 55), (⟨"SoleraCellarModel", "tells", "(IIJ)J"⟩, 55), (⟨"SoleraCellarModel", "wholeMean", "(I)I"⟩, 55), (⟨"SoleraCellarModel", "isSo", "(I)Z"⟩, 55)]
theorem lw_r3 : ∀ q ∈ lw_privs_3, lw_okq q := List.forall_mem_cons.mpr ⟨lw_p32, List.forall_mem_cons.mpr ⟨lw_p33, List.forall_mem_cons.mpr ⟨lw_p34, List.forall_mem_cons.mpr ⟨lw_p35, List.forall_mem_cons.mpr ⟨lw_p36, List.forall_mem_cons.mpr ⟨lw_p37, List.forall_mem_cons.mpr ⟨lw_p38, List.forall_mem_cons.mpr ⟨lw_p39, List.forall_mem_cons.mpr ⟨lw_p40, List.forall_mem_cons.mpr ⟨lw_p41, List.forall_mem_cons.mpr ⟨lw_p42, List.forall_mem_cons.mpr ⟨lw_p43, List.forall_mem_cons.mpr ⟨lw_p44, List.forall_mem_cons.mpr ⟨lw_p45, List.forall_mem_cons.mpr ⟨lw_p46, List.forall_mem_cons.mpr ⟨lw_p47, fun _ h => absurd h List.not_mem_nil⟩⟩⟩⟩⟩⟩⟩⟩⟩⟩⟩⟩⟩⟩⟩⟩
theorem lw_p48 : lw_okq (⟨"SoleraCellarModel", "reckonAll", "(II)V"⟩, 55) := ⟨⟨by decide +kernel, by decide +kernel⟩, List.mem_of_getElem? (i := 968) (by decide +kernel), List.mem_of_getElem? (i := 1241) (by decide +kernel), List.mem_of_getElem? (i := 1242) (by decide +kernel)⟩
theorem lw_p49 : lw_okq (⟨"SoleraCellarModel", "factOf", "(II)J"⟩, 55) := ⟨⟨by decide +kernel, by decide +kernel⟩, List.mem_of_getElem? (i := 968) (by decide +kernel), List.mem_of_getElem? (i := 1245) (by decide +kernel), List.mem_of_getElem? (i := 1246) (by decide +kernel)⟩
theorem lw_p50 : lw_okq (⟨"SoleraCellarModel", "roomOf", "(I)I"⟩, 55) := ⟨⟨by decide +kernel, by decide +kernel⟩, List.mem_of_getElem? (i := 968) (by decide +kernel), List.mem_of_getElem? (i := 1250) (by decide +kernel), List.mem_of_getElem? (i := 1251) (by decide +kernel)⟩
theorem lw_p51 : lw_okq (⟨"SoleraCellarModel", "reckon", "(IJJ)J"⟩, 55) := ⟨⟨by decide +kernel, by decide +kernel⟩, List.mem_of_getElem? (i := 968) (by decide +kernel), List.mem_of_getElem? (i := 1254) (by decide +kernel), List.mem_of_getElem? (i := 1255) (by decide +kernel)⟩
theorem lw_p52 : lw_okq (⟨"SoleraCellarModel", "yieldsOf", "(I)I"⟩, 55) := ⟨⟨by decide +kernel, by decide +kernel⟩, List.mem_of_getElem? (i := 968) (by decide +kernel), List.mem_of_getElem? (i := 1263) (by decide +kernel), List.mem_of_getElem? (i := 1264) (by decide +kernel)⟩
theorem lw_p53 : lw_okq (⟨"SoleraCellarModel", "isBarred", "(I)Z"⟩, 55) := ⟨⟨by decide +kernel, by decide +kernel⟩, List.mem_of_getElem? (i := 968) (by decide +kernel), List.mem_of_getElem? (i := 1267) (by decide +kernel), List.mem_of_getElem? (i := 1268) (by decide +kernel)⟩
theorem lw_p54 : lw_okq (⟨"SoleraCellarModel", "change", "(II)I"⟩, 55) := ⟨⟨by decide +kernel, by decide +kernel⟩, List.mem_of_getElem? (i := 968) (by decide +kernel), List.mem_of_getElem? (i := 1285) (by decide +kernel), List.mem_of_getElem? (i := 1286) (by decide +kernel)⟩
theorem lw_p55 : lw_okq (⟨"SoleraCellarModel", "four", "(I)V"⟩, 55) := ⟨⟨by decide +kernel, by decide +kernel⟩, List.mem_of_getElem? (i := 968) (by decide +kernel), List.mem_of_getElem? (i := 1301) (by decide +kernel), List.mem_of_getElem? (i := 1302) (by decide +kernel)⟩
theorem lw_p56 : lw_okq (⟨"SoleraCellarModel", "beginText", "(Z)V"⟩, 55) := ⟨⟨by decide +kernel, by decide +kernel⟩, List.mem_of_getElem? (i := 968) (by decide +kernel), List.mem_of_getElem? (i := 1317) (by decide +kernel), List.mem_of_getElem? (i := 1318) (by decide +kernel)⟩
theorem lw_p57 : lw_okq (⟨"SoleraCellarModel", "begin", "()V"⟩, 55) := ⟨⟨by decide +kernel, by decide +kernel⟩, List.mem_of_getElem? (i := 968) (by decide +kernel), List.mem_of_getElem? (i := 1321) (by decide +kernel), List.mem_of_getElem? (i := 1322) (by decide +kernel)⟩
theorem lw_p58 : lw_okq (⟨"SoleraCellarModel", "next", "()V"⟩, 55) := ⟨⟨by decide +kernel, by decide +kernel⟩, List.mem_of_getElem? (i := 968) (by decide +kernel), List.mem_of_getElem? (i := 1325) (by decide +kernel), List.mem_of_getElem? (i := 1326) (by decide +kernel)⟩
theorem lw_p59 : lw_okq (⟨"SoleraCellarModel", "readLaw", "()V"⟩, 55) := ⟨⟨by decide +kernel, by decide +kernel⟩, List.mem_of_getElem? (i := 968) (by decide +kernel), List.mem_of_getElem? (i := 1339) (by decide +kernel), List.mem_of_getElem? (i := 1340) (by decide +kernel)⟩
theorem lw_p60 : lw_okq (⟨"SoleraCellarModel", "isWord", "(J)Z"⟩, 55) := ⟨⟨by decide +kernel, by decide +kernel⟩, List.mem_of_getElem? (i := 968) (by decide +kernel), List.mem_of_getElem? (i := 1343) (by decide +kernel), List.mem_of_getElem? (i := 1344) (by decide +kernel)⟩
theorem lw_p61 : lw_okq (⟨"SoleraCellarModel", "must", "(Z)V"⟩, 55) := ⟨⟨by decide +kernel, by decide +kernel⟩, List.mem_of_getElem? (i := 968) (by decide +kernel), List.mem_of_getElem? (i := 1347) (by decide +kernel), List.mem_of_getElem? (i := 1348) (by decide +kernel)⟩
theorem lw_p62 : lw_okq (⟨"SoleraCellarModel", "readExpression", "(Z)V"⟩, 55) := ⟨⟨by decide +kernel, by decide +kernel⟩, List.mem_of_getElem? (i := 968) (by decide +kernel), List.mem_of_getElem? (i := 1351) (by decide +kernel), List.mem_of_getElem? (i := 1352) (by decide +kernel)⟩
theorem lw_p63 : lw_okq (⟨"SoleraCellarModel", "readPlain", "()I"⟩, 55) := ⟨⟨by decide +kernel, by decide +kernel⟩, List.mem_of_getElem? (i := 968) (by decide +kernel), List.mem_of_getElem? (i := 1355) (by decide +kernel), List.mem_of_getElem? (i := 1356) (by decide +kernel)⟩
def lw_privs_4 : List (MethodName × Nat) := [(⟨"SoleraCellarModel", "reckonAll", "(II)V"⟩, 55), (⟨"SoleraCellarModel", "factOf", "(II)J"⟩, 55), (⟨"SoleraCellarModel", "roomOf", "(I)I"⟩, 55), (⟨"SoleraCellarModel", "reckon", "(IJJ)J"⟩, 55), (⟨"SoleraCellarModel", "yieldsOf", "(I)I"⟩, 55), (⟨"SoleraCellarModel", "isBarred", "(I)Z"⟩, 55), (⟨"SoleraCellarModel", "change", "(II)I"⟩, 55), (⟨"SoleraCellarModel", "four", "(I)V"⟩, 55), (⟨"SoleraCellarModel", "beginText", "(Z)V"⟩, 55), (⟨"SoleraCellarModel", "begin", "()V"⟩, 55), (⟨"SoleraCellarModel", "next", "()V"⟩, 55), (⟨"SoleraCellarModel", "readLaw", "()V"⟩, 55), (⟨"SoleraCellarModel", "isWord", "(J)Z"⟩, 55), (⟨"SoleraCellarModel", "must", "(Z)V"⟩, 55), (⟨"SoleraCellarModel", "readExpression", "(Z)V"⟩, 55), (⟨"SoleraCellarModel", "readPlain", "()I"⟩, 55)]
theorem lw_r4 : ∀ q ∈ lw_privs_4, lw_okq q := List.forall_mem_cons.mpr ⟨lw_p48, List.forall_mem_cons.mpr ⟨lw_p49, List.forall_mem_cons.mpr ⟨lw_p50, List.forall_mem_cons.mpr ⟨lw_p51, List.forall_mem_cons.mpr ⟨lw_p52, List.forall_mem_cons.mpr ⟨lw_p53, List.forall_mem_cons.mpr ⟨lw_p54, List.forall_mem_cons.mpr ⟨lw_p55, List.forall_mem_cons.mpr ⟨lw_p56, List.forall_mem_cons.mpr ⟨lw_p57, List.forall_mem_cons.mpr ⟨lw_p58, List.forall_mem_cons.mpr ⟨lw_p59, List.forall_mem_cons.mpr ⟨lw_p60, List.forall_mem_cons.mpr ⟨lw_p61, List.forall_mem_cons.mpr ⟨lw_p62, List.forall_mem_cons.mpr ⟨lw_p63, fun _ h => absurd h List.not_mem_nil⟩⟩⟩⟩⟩⟩⟩⟩⟩⟩⟩⟩⟩⟩⟩⟩
theorem lw_p64 : lw_okq (⟨"SoleraCellarModel", "push", "(II)V"⟩, 55) := ⟨⟨by decide +kernel, by decide +kernel⟩, List.mem_of_getElem? (i := 968) (by decide +kernel), List.mem_of_getElem? (i := 1360) (by decide +kernel), List.mem_of_getElem? (i := 1361) (by decide +kernel)⟩
theorem lw_p65 : lw_okq (⟨"SoleraCellarModel", "isSign", "(I)Z"⟩, 55) := ⟨⟨by decide +kernel, by decide +kernel⟩, List.mem_of_getElem? (i := 968) (by decide +kernel), List.mem_of_getElem? (i := 1364) (by decide +kernel), List.mem_of_getElem? (i := 1365) (by decide +kernel)⟩
theorem lw_p66 : lw_okq (⟨"SoleraCellarModel", "openBracket", "(I)V"⟩, 55) := ⟨⟨by decide +kernel, by decide +kernel⟩, List.mem_of_getElem? (i := 968) (by decide +kernel), List.mem_of_getElem? (i := 1368) (by decide +kernel), List.mem_of_getElem? (i := 1369) (by decide +kernel)⟩
theorem lw_p67 : lw_okq (⟨"SoleraCellarModel", "readPart", "()I"⟩, 55) := ⟨⟨by decide +kernel, by decide +kernel⟩, List.mem_of_getElem? (i := 968) (by decide +kernel), List.mem_of_getElem? (i := 1372) (by decide +kernel), List.mem_of_getElem? (i := 1373) (by decide +kernel)⟩
theorem lw_p68 : lw_okq (⟨"SoleraCellarModel", "orderPartAt", "()I"⟩, 55) := ⟨⟨by decide +kernel, by decide +kernel⟩, List.mem_of_getElem? (i := 968) (by decide +kernel), List.mem_of_getElem? (i := 1376) (by decide +kernel), List.mem_of_getElem? (i := 1377) (by decide +kernel)⟩
theorem lw_p69 : lw_okq (⟨"SoleraCellarModel", "partAt", "()I"⟩, 55) := ⟨⟨by decide +kernel, by decide +kernel⟩, List.mem_of_getElem? (i := 968) (by decide +kernel), List.mem_of_getElem? (i := 1380) (by decide +kernel), List.mem_of_getElem? (i := 1381) (by decide +kernel)⟩
theorem lw_p70 : lw_okq (⟨"SoleraCellarModel", "leaf", "(ZII)V"⟩, 55) := ⟨⟨by decide +kernel, by decide +kernel⟩, List.mem_of_getElem? (i := 968) (by decide +kernel), List.mem_of_getElem? (i := 1384) (by decide +kernel), List.mem_of_getElem? (i := 1385) (by decide +kernel)⟩
theorem lw_p71 : lw_okq (⟨"SoleraCellarModel", "emit", "(II)V"⟩, 55) := ⟨⟨by decide +kernel, by decide +kernel⟩, List.mem_of_getElem? (i := 968) (by decide +kernel), List.mem_of_getElem? (i := 1388) (by decide +kernel), List.mem_of_getElem? (i := 1389) (by decide +kernel)⟩
theorem lw_p72 : lw_okq (⟨"SoleraCellarModel", "number", "(JJ)I"⟩, 55) := ⟨⟨by decide +kernel, by decide +kernel⟩, List.mem_of_getElem? (i := 968) (by decide +kernel), List.mem_of_getElem? (i := 1393) (by decide +kernel), List.mem_of_getElem? (i := 1394) (by decide +kernel)⟩
theorem lw_p73 : lw_okq (⟨"SoleraCellarModel", "behindSum", "(Z)I"⟩, 55) := ⟨⟨by decide +kernel, by decide +kernel⟩, List.mem_of_getElem? (i := 968) (by decide +kernel), List.mem_of_getElem? (i := 1397) (by decide +kernel), List.mem_of_getElem? (i := 1398) (by decide +kernel)⟩
theorem lw_p74 : lw_okq (⟨"SoleraCellarModel", "settle", "(I)V"⟩, 55) := ⟨⟨by decide +kernel, by decide +kernel⟩, List.mem_of_getElem? (i := 968) (by decide +kernel), List.mem_of_getElem? (i := 1404) (by decide +kernel), List.mem_of_getElem? (i := 1405) (by decide +kernel)⟩
theorem lw_p75 : lw_okq (⟨"SoleraCellarModel", "inner", "()I"⟩, 55) := ⟨⟨by decide +kernel, by decide +kernel⟩, List.mem_of_getElem? (i := 968) (by decide +kernel), List.mem_of_getElem? (i := 1408) (by decide +kernel), List.mem_of_getElem? (i := 1409) (by decide +kernel)⟩
theorem lw_p76 : lw_okq (⟨"SoleraCellarModel", "isCompared", "()Z"⟩, 55) := ⟨⟨by decide +kernel, by decide +kernel⟩, List.mem_of_getElem? (i := 968) (by decide +kernel), List.mem_of_getElem? (i := 1412) (by decide +kernel), List.mem_of_getElem? (i := 1413) (by decide +kernel)⟩
theorem lw_p77 : lw_okq (⟨"SoleraCellarModel", "behindTest", "()I"⟩, 55) := ⟨⟨by decide +kernel, by decide +kernel⟩, List.mem_of_getElem? (i := 968) (by decide +kernel), List.mem_of_getElem? (i := 1419) (by decide +kernel), List.mem_of_getElem? (i := 1420) (by decide +kernel)⟩
theorem lw_p78 : lw_okq (⟨"SoleraCellarModel", "endText", "()V"⟩, 55) := ⟨⟨by decide +kernel, by decide +kernel⟩, List.mem_of_getElem? (i := 968) (by decide +kernel), List.mem_of_getElem? (i := 1426) (by decide +kernel), List.mem_of_getElem? (i := 1427) (by decide +kernel)⟩
theorem lw_p79 : lw_okq (⟨"SoleraCellarModel", "isLaw", "(I)Z"⟩, 55) := ⟨⟨by decide +kernel, by decide +kernel⟩, List.mem_of_getElem? (i := 968) (by decide +kernel), List.mem_of_getElem? (i := 1434) (by decide +kernel), List.mem_of_getElem? (i := 1435) (by decide +kernel)⟩
def lw_privs_5 : List (MethodName × Nat) := [(⟨"SoleraCellarModel", "push", "(II)V"⟩, 55), (⟨"SoleraCellarModel", "isSign", "(I)Z"⟩, 55), (⟨"SoleraCellarModel", "openBracket", "(I)V"⟩, 55), (⟨"SoleraCellarModel", "readPart", "()I"⟩, 55), (⟨"SoleraCellarModel", "orderPartAt", "()I"⟩, 55), (⟨"SoleraCellarModel", "partAt", "()I"⟩, 55), (⟨"SoleraCellarModel", "leaf", "(ZII)V"⟩, 55), (⟨"SoleraCellarModel", "emit", "(II)V"⟩, 55), (⟨"SoleraCellarModel", "number", "(JJ)I"⟩, 55), (⟨"SoleraCellarModel", "behindSum", "(Z)I"⟩, 55), (⟨"SoleraCellarModel", "settle", "(I)V"⟩, 55), (⟨"SoleraCellarModel", "inner", "()I"⟩, 55), (⟨"SoleraCellarModel", "isCompared", "()Z"⟩, 55), (⟨"SoleraCellarModel", "behindTest", "()I"⟩, 55), (⟨"SoleraCellarModel", "endText", "()V"⟩, 55), (⟨"SoleraCellarModel", "isLaw", "(I)Z"⟩, 55)]
theorem lw_r5 : ∀ q ∈ lw_privs_5, lw_okq q := List.forall_mem_cons.mpr ⟨lw_p64, List.forall_mem_cons.mpr ⟨lw_p65, List.forall_mem_cons.mpr ⟨lw_p66, List.forall_mem_cons.mpr ⟨lw_p67, List.forall_mem_cons.mpr ⟨lw_p68, List.forall_mem_cons.mpr ⟨lw_p69, List.forall_mem_cons.mpr ⟨lw_p70, List.forall_mem_cons.mpr ⟨lw_p71, List.forall_mem_cons.mpr ⟨lw_p72, List.forall_mem_cons.mpr ⟨lw_p73, List.forall_mem_cons.mpr ⟨lw_p74, List.forall_mem_cons.mpr ⟨lw_p75, List.forall_mem_cons.mpr ⟨lw_p76, List.forall_mem_cons.mpr ⟨lw_p77, List.forall_mem_cons.mpr ⟨lw_p78, List.forall_mem_cons.mpr ⟨lw_p79, fun _ h => absurd h List.not_mem_nil⟩⟩⟩⟩⟩⟩⟩⟩⟩⟩⟩⟩⟩⟩⟩⟩
theorem lw_p80 : lw_okq (⟨"SoleraCellarModel", "pourNow", "(II)I"⟩, 55) := ⟨⟨by decide +kernel, by decide +kernel⟩, List.mem_of_getElem? (i := 968) (by decide +kernel), List.mem_of_getElem? (i := 1442) (by decide +kernel), List.mem_of_getElem? (i := 1443) (by decide +kernel)⟩
theorem lw_p81 : lw_okq (⟨"SoleraCellarModel", "whyNotPour", "(II)I"⟩, 55) := ⟨⟨by decide +kernel, by decide +kernel⟩, List.mem_of_getElem? (i := 968) (by decide +kernel), List.mem_of_getElem? (i := 1446) (by decide +kernel), List.mem_of_getElem? (i := 1447) (by decide +kernel)⟩
theorem lw_p82 : lw_okq (⟨"SoleraCellarModel", "remember", "(I)V"⟩, 55) := ⟨⟨by decide +kernel, by decide +kernel⟩, List.mem_of_getElem? (i := 968) (by decide +kernel), List.mem_of_getElem? (i := 1450) (by decide +kernel), List.mem_of_getElem? (i := 1451) (by decide +kernel)⟩
theorem lw_p83 : lw_okq (⟨"SoleraCellarModel", "keepAll", "(I)V"⟩, 55) := ⟨⟨by decide +kernel, by decide +kernel⟩, List.mem_of_getElem? (i := 968) (by decide +kernel), List.mem_of_getElem? (i := 1454) (by decide +kernel), List.mem_of_getElem? (i := 1455) (by decide +kernel)⟩
theorem lw_p84 : lw_okq (⟨"SoleraCellarModel", "pourIt", "(II)I"⟩, 55) := ⟨⟨by decide +kernel, by decide +kernel⟩, List.mem_of_getElem? (i := 968) (by decide +kernel), List.mem_of_getElem? (i := 1458) (by decide +kernel), List.mem_of_getElem? (i := 1459) (by decide +kernel)⟩
theorem lw_p85 : lw_okq (⟨"SoleraCellarModel", "rackNow", "(III)I"⟩, 55) := ⟨⟨by decide +kernel, by decide +kernel⟩, List.mem_of_getElem? (i := 968) (by decide +kernel), List.mem_of_getElem? (i := 1466) (by decide +kernel), List.mem_of_getElem? (i := 1467) (by decide +kernel)⟩
theorem lw_p86 : lw_okq (⟨"SoleraCellarModel", "whyNotRack", "(III)I"⟩, 55) := ⟨⟨by decide +kernel, by decide +kernel⟩, List.mem_of_getElem? (i := 968) (by decide +kernel), List.mem_of_getElem? (i := 1470) (by decide +kernel), List.mem_of_getElem? (i := 1471) (by decide +kernel)⟩
theorem lw_p87 : lw_okq (⟨"SoleraCellarModel", "rackIt", "(III)I"⟩, 55) := ⟨⟨by decide +kernel, by decide +kernel⟩, List.mem_of_getElem? (i := 968) (by decide +kernel), List.mem_of_getElem? (i := 1474) (by decide +kernel), List.mem_of_getElem? (i := 1475) (by decide +kernel)⟩
theorem lw_p88 : lw_okq (⟨"SoleraCellarModel", "takeOut", "(II)I"⟩, 55) := ⟨⟨by decide +kernel, by decide +kernel⟩, List.mem_of_getElem? (i := 968) (by decide +kernel), List.mem_of_getElem? (i := 1478) (by decide +kernel), List.mem_of_getElem? (i := 1479) (by decide +kernel)⟩
theorem lw_p89 : lw_okq (⟨"SoleraCellarModel", "bottleNow", "(II)I"⟩, 55) := ⟨⟨by decide +kernel, by decide +kernel⟩, List.mem_of_getElem? (i := 968) (by decide +kernel), List.mem_of_getElem? (i := 1486) (by decide +kernel), List.mem_of_getElem? (i := 1487) (by decide +kernel)⟩
theorem lw_p90 : lw_okq (⟨"SoleraCellarModel", "whyNotBottle", "(II)I"⟩, 55) := ⟨⟨by decide +kernel, by decide +kernel⟩, List.mem_of_getElem? (i := 968) (by decide +kernel), List.mem_of_getElem? (i := 1490) (by decide +kernel), List.mem_of_getElem? (i := 1491) (by decide +kernel)⟩
theorem lw_p91 : lw_okq (⟨"SoleraCellarModel", "bottleIt", "(II)I"⟩, 55) := ⟨⟨by decide +kernel, by decide +kernel⟩, List.mem_of_getElem? (i := 968) (by decide +kernel), List.mem_of_getElem? (i := 1494) (by decide +kernel), List.mem_of_getElem? (i := 1495) (by decide +kernel)⟩
theorem lw_p92 : lw_okq (⟨"SoleraCellarModel", "passNow", "()I"⟩, 55) := ⟨⟨by decide +kernel, by decide +kernel⟩, List.mem_of_getElem? (i := 968) (by decide +kernel), List.mem_of_getElem? (i := 1503) (by decide +kernel), List.mem_of_getElem? (i := 1504) (by decide +kernel)⟩
theorem lw_p93 : lw_okq (⟨"SoleraCellarModel", "passIt", "()I"⟩, 55) := ⟨⟨by decide +kernel, by decide +kernel⟩, List.mem_of_getElem? (i := 968) (by decide +kernel), List.mem_of_getElem? (i := 1507) (by decide +kernel), List.mem_of_getElem? (i := 1508) (by decide +kernel)⟩
theorem lw_p94 : lw_okq (⟨"SoleraCellarModel", "readOrders", "()V"⟩, 55) := ⟨⟨by decide +kernel, by decide +kernel⟩, List.mem_of_getElem? (i := 968) (by decide +kernel), List.mem_of_getElem? (i := 1515) (by decide +kernel), List.mem_of_getElem? (i := 1516) (by decide +kernel)⟩
theorem lw_p95 : lw_okq (⟨"SoleraCellarModel", "readOrder", "()V"⟩, 55) := ⟨⟨by decide +kernel, by decide +kernel⟩, List.mem_of_getElem? (i := 968) (by decide +kernel), List.mem_of_getElem? (i := 1519) (by decide +kernel), List.mem_of_getElem? (i := 1520) (by decide +kernel)⟩
def lw_privs_6 : List (MethodName × Nat) := [(⟨"SoleraCellarModel", "pourNow", "(II)I"⟩, 55), (⟨"SoleraCellarModel", "whyNotPour", "(II)I"⟩, 55), (⟨"SoleraCellarModel", "remember", "(I)V"⟩, 55), (⟨"SoleraCellarModel", "keepAll", "(I)V"⟩, 55), (⟨"SoleraCellarModel", "pourIt", "(II)I"⟩, 55), (⟨"SoleraCellarModel", "rackNow", "(III)I"⟩, 55), (⟨"SoleraCellarModel", "whyNotRack", "(III)I"⟩, 55), (⟨"SoleraCellarModel", "rackIt", "(III)I"⟩, 55), (⟨"SoleraCellarModel", "takeOut", "(II)I"⟩, 55), (⟨"SoleraCellarModel", "bottleNow", "(II)I"⟩, 55), (⟨"SoleraCellarModel", "whyNotBottle", "(II)I"⟩, 55), (⟨"SoleraCellarModel", "bottleIt", "(II)I"⟩, 55), (⟨"SoleraCellarModel", "passNow", "()I"⟩, 55), (⟨"SoleraCellarModel", "passIt", "()I"⟩, 55), (⟨"SoleraCellarModel", "readOrders", "()V"⟩, 55), (⟨"SoleraCellarModel", "readOrder", "()V"⟩, 55)]
theorem lw_r6 : ∀ q ∈ lw_privs_6, lw_okq q := List.forall_mem_cons.mpr ⟨lw_p80, List.forall_mem_cons.mpr ⟨lw_p81, List.forall_mem_cons.mpr ⟨lw_p82, List.forall_mem_cons.mpr ⟨lw_p83, List.forall_mem_cons.mpr ⟨lw_p84, List.forall_mem_cons.mpr ⟨lw_p85, List.forall_mem_cons.mpr ⟨lw_p86, List.forall_mem_cons.mpr ⟨lw_p87, List.forall_mem_cons.mpr ⟨lw_p88, List.forall_mem_cons.mpr ⟨lw_p89, List.forall_mem_cons.mpr ⟨lw_p90, List.forall_mem_cons.mpr ⟨lw_p91, List.forall_mem_cons.mpr ⟨lw_p92, List.forall_mem_cons.mpr ⟨lw_p93, List.forall_mem_cons.mpr ⟨lw_p94, List.forall_mem_cons.mpr ⟨lw_p95, fun _ h => absurd h List.not_mem_nil⟩⟩⟩⟩⟩⟩⟩⟩⟩⟩⟩⟩⟩⟩⟩⟩
theorem lw_p96 : lw_okq (⟨"SoleraCellarModel", "readSum", "(I)V"⟩, 55) := ⟨⟨by decide +kernel, by decide +kernel⟩, List.mem_of_getElem? (i := 968) (by decide +kernel), List.mem_of_getElem? (i := 1523) (by decide +kernel), List.mem_of_getElem? (i := 1524) (by decide +kernel)⟩
theorem lw_p97 : lw_okq (⟨"SoleraCellarModel", "readBehind", "(JI)V"⟩, 55) := ⟨⟨by decide +kernel, by decide +kernel⟩, List.mem_of_getElem? (i := 968) (by decide +kernel), List.mem_of_getElem? (i := 1528) (by decide +kernel), List.mem_of_getElem? (i := 1529) (by decide +kernel)⟩
theorem lw_p98 : lw_okq (⟨"SoleraCellarModel", "keepUndos", "()V"⟩, 55) := ⟨⟨by decide +kernel, by decide +kernel⟩, List.mem_of_getElem? (i := 968) (by decide +kernel), List.mem_of_getElem? (i := 1538) (by decide +kernel), List.mem_of_getElem? (i := 1539) (by decide +kernel)⟩
theorem lw_p99 : lw_okq (⟨"SoleraCellarModel", "isAsked", "(I)Z"⟩, 55) := ⟨⟨by decide +kernel, by decide +kernel⟩, List.mem_of_getElem? (i := 968) (by decide +kernel), List.mem_of_getElem? (i := 1542) (by decide +kernel), List.mem_of_getElem? (i := 1543) (by decide +kernel)⟩
theorem lw_p100 : lw_okq (⟨"SoleraCellarModel", "setNow", "()V"⟩, 55) := ⟨⟨by decide +kernel, by decide +kernel⟩, List.mem_of_getElem? (i := 968) (by decide +kernel), List.mem_of_getElem? (i := 1546) (by decide +kernel), List.mem_of_getElem? (i := 1547) (by decide +kernel)⟩
theorem lw_p101 : lw_okq (⟨"SoleraCellarModel", "sumOf", "(I)I"⟩, 55) := ⟨⟨by decide +kernel, by decide +kernel⟩, List.mem_of_getElem? (i := 968) (by decide +kernel), List.mem_of_getElem? (i := 1550) (by decide +kernel), List.mem_of_getElem? (i := 1551) (by decide +kernel)⟩
theorem lw_p102 : lw_okq (⟨"SoleraCellarModel", "runOnce", "(I)I"⟩, 55) := ⟨⟨by decide +kernel, by decide +kernel⟩, List.mem_of_getElem? (i := 968) (by decide +kernel), List.mem_of_getElem? (i := 1554) (by decide +kernel), List.mem_of_getElem? (i := 1555) (by decide +kernel)⟩
theorem lw_p103 : lw_okq (⟨"SoleraCellarModel", "act", "(IIII)I"⟩, 55) := ⟨⟨by decide +kernel, by decide +kernel⟩, List.mem_of_getElem? (i := 968) (by decide +kernel), List.mem_of_getElem? (i := 1558) (by decide +kernel), List.mem_of_getElem? (i := 1559) (by decide +kernel)⟩
theorem lw_p104 : lw_okq (⟨"SoleraCellarModel", "giveBack", "(I)V"⟩, 55) := ⟨⟨by decide +kernel, by decide +kernel⟩, List.mem_of_getElem? (i := 968) (by decide +kernel), List.mem_of_getElem? (i := 1562) (by decide +kernel), List.mem_of_getElem? (i := 1563) (by decide +kernel)⟩
theorem lw_p105 : lw_okq (⟨"SoleraCellarModel", "isPlan", "(I)Z"⟩, 55) := ⟨⟨by decide +kernel, by decide +kernel⟩, List.mem_of_getElem? (i := 968) (by decide +kernel), List.mem_of_getElem? (i := 1574) (by decide +kernel), List.mem_of_getElem? (i := 1575) (by decide +kernel)⟩
theorem lw_p106 : lw_okq (⟨"SoleraCellarModel", "beginPlan", "(I)V"⟩, 55) := ⟨⟨by decide +kernel, by decide +kernel⟩, List.mem_of_getElem? (i := 968) (by decide +kernel), List.mem_of_getElem? (i := 1580) (by decide +kernel), List.mem_of_getElem? (i := 1581) (by decide +kernel)⟩
theorem lw_p107 : lw_okq (⟨"SoleraCellarModel", "loadPlan", "(I)V"⟩, 55) := ⟨⟨by decide +kernel, by decide +kernel⟩, List.mem_of_getElem? (i := 968) (by decide +kernel), List.mem_of_getElem? (i := 1584) (by decide +kernel), List.mem_of_getElem? (i := 1585) (by decide +kernel)⟩
theorem lw_p108 : lw_okq (⟨"SoleraCellarModel", "planYear", "()V"⟩, 55) := ⟨⟨by decide +kernel, by decide +kernel⟩, List.mem_of_getElem? (i := 968) (by decide +kernel), List.mem_of_getElem? (i := 1589) (by decide +kernel), List.mem_of_getElem? (i := 1590) (by decide +kernel)⟩
theorem lw_p109 : lw_okq (⟨"SoleraCellarModel", "planOnce", "(I)I"⟩, 55) := ⟨⟨by decide +kernel, by decide +kernel⟩, List.mem_of_getElem? (i := 968) (by decide +kernel), List.mem_of_getElem? (i := 1593) (by decide +kernel), List.mem_of_getElem? (i := 1594) (by decide +kernel)⟩
theorem lw_p110 : lw_okq (⟨"SoleraCellarModel", "yieldOf", "(II)I"⟩, 55) := ⟨⟨by decide +kernel, by decide +kernel⟩, List.mem_of_getElem? (i := 968) (by decide +kernel), List.mem_of_getElem? (i := 1614) (by decide +kernel), List.mem_of_getElem? (i := 1615) (by decide +kernel)⟩
theorem lw_p111 : lw_okq (⟨"SoleraCellarModel", "thatCanBe", "()I"⟩, 55) := ⟨⟨by decide +kernel, by decide +kernel⟩, List.mem_of_getElem? (i := 968) (by decide +kernel), List.mem_of_getElem? (i := 1634) (by decide +kernel), List.mem_of_getElem? (i := 1635) (by decide +kernel)⟩
def lw_privs_7 : List (MethodName × Nat) := [(⟨"SoleraCellarModel", "readSum", "(I)V"⟩, 55), (⟨"SoleraCellarModel", "readBehind", "(JI)V"⟩, 55), (⟨"SoleraCellarModel", "keepUndos", "()V"⟩, 55), (⟨"SoleraCellarModel", "isAsked", "(I)Z"⟩, 55), (⟨"SoleraCellarModel", "setNow", "()V"⟩, 55), (⟨"SoleraCellarModel", "sumOf", "(I)I"⟩, 55), (⟨"SoleraCellarModel", "runOnce", "(I)I"⟩, 55), (⟨"SoleraCellarModel", "act", "(IIII)I"⟩, 55), (⟨"SoleraCellarModel", "giveBack", "(I)V"⟩, 55), (⟨"SoleraCellarModel", "isPlan", "(I)Z"⟩, 55), (⟨"SoleraCellarModel", "beginPlan", "(I)V"⟩, 55), (⟨"SoleraCellarModel", "loadPlan", "(I)V"⟩, 55), (⟨"SoleraCellarModel", "planYear", "()V"⟩, 55), (⟨"SoleraCellarModel", "planOnce", "(I)I"⟩, 55), (⟨"SoleraCellarModel", "yieldOf", "(II)I"⟩, 55), (⟨"SoleraCellarModel", "thatCanBe", "()I"⟩, 55)]
theorem lw_r7 : ∀ q ∈ lw_privs_7, lw_okq q := List.forall_mem_cons.mpr ⟨lw_p96, List.forall_mem_cons.mpr ⟨lw_p97, List.forall_mem_cons.mpr ⟨lw_p98, List.forall_mem_cons.mpr ⟨lw_p99, List.forall_mem_cons.mpr ⟨lw_p100, List.forall_mem_cons.mpr ⟨lw_p101, List.forall_mem_cons.mpr ⟨lw_p102, List.forall_mem_cons.mpr ⟨lw_p103, List.forall_mem_cons.mpr ⟨lw_p104, List.forall_mem_cons.mpr ⟨lw_p105, List.forall_mem_cons.mpr ⟨lw_p106, List.forall_mem_cons.mpr ⟨lw_p107, List.forall_mem_cons.mpr ⟨lw_p108, List.forall_mem_cons.mpr ⟨lw_p109, List.forall_mem_cons.mpr ⟨lw_p110, List.forall_mem_cons.mpr ⟨lw_p111, fun _ h => absurd h List.not_mem_nil⟩⟩⟩⟩⟩⟩⟩⟩⟩⟩⟩⟩⟩⟩⟩⟩
theorem lw_p112 : lw_okq (⟨"SoleraCellarModel", "tasteOf", "(II)I"⟩, 55) := ⟨⟨by decide +kernel, by decide +kernel⟩, List.mem_of_getElem? (i := 968) (by decide +kernel), List.mem_of_getElem? (i := 1638) (by decide +kernel), List.mem_of_getElem? (i := 1639) (by decide +kernel)⟩
theorem lw_p113 : lw_okq (⟨"SoleraCellarModel", "mostAlike", "(II)I"⟩, 55) := ⟨⟨by decide +kernel, by decide +kernel⟩, List.mem_of_getElem? (i := 968) (by decide +kernel), List.mem_of_getElem? (i := 1646) (by decide +kernel), List.mem_of_getElem? (i := 1647) (by decide +kernel)⟩
theorem lw_p114 : lw_okq (⟨"SoleraCellarModel", "lossOf", "(I)I"⟩, 55) := ⟨⟨by decide +kernel, by decide +kernel⟩, List.mem_of_getElem? (i := 968) (by decide +kernel), List.mem_of_getElem? (i := 1662) (by decide +kernel), List.mem_of_getElem? (i := 1663) (by decide +kernel)⟩
theorem lw_p115 : lw_okq (⟨"SoleraCellarModel", "draw", "(I)I"⟩, 55) := ⟨⟨by decide +kernel, by decide +kernel⟩, List.mem_of_getElem? (i := 968) (by decide +kernel), List.mem_of_getElem? (i := 1670) (by decide +kernel), List.mem_of_getElem? (i := 1671) (by decide +kernel)⟩
theorem lw_p116 : lw_okq (⟨"SoleraCellarModel", "drawnAct", "(IIII)V"⟩, 55) := ⟨⟨by decide +kernel, by decide +kernel⟩, List.mem_of_getElem? (i := 968) (by decide +kernel), List.mem_of_getElem? (i := 1677) (by decide +kernel), List.mem_of_getElem? (i := 1678) (by decide +kernel)⟩
def lw_privs_8 : List (MethodName × Nat) := [(⟨"SoleraCellarModel", "tasteOf", "(II)I"⟩, 55), (⟨"SoleraCellarModel", "mostAlike", "(II)I"⟩, 55), (⟨"SoleraCellarModel", "lossOf", "(I)I"⟩, 55), (⟨"SoleraCellarModel", "draw", "(I)I"⟩, 55), (⟨"SoleraCellarModel", "drawnAct", "(IIII)V"⟩, 55)]
theorem lw_r8 : ∀ q ∈ lw_privs_8, lw_okq q := List.forall_mem_cons.mpr ⟨lw_p112, List.forall_mem_cons.mpr ⟨lw_p113, List.forall_mem_cons.mpr ⟨lw_p114, List.forall_mem_cons.mpr ⟨lw_p115, List.forall_mem_cons.mpr ⟨lw_p116, fun _ h => absurd h List.not_mem_nil⟩⟩⟩⟩⟩
def lw_privs : List (MethodName × Nat) := lw_privs_1 ++ (lw_privs_2 ++ (lw_privs_3 ++ (lw_privs_4 ++ (lw_privs_5 ++ (lw_privs_6 ++ (lw_privs_7 ++ (lw_privs_8)))))))
def lw_tbl : List Cond := k2_sels lw_privs ++ tables_1
theorem lw_privs_ok : ∀ q ∈ lw_privs, lw_okq q := by
  show ∀ q ∈ lw_privs_1 ++ (lw_privs_2 ++ (lw_privs_3 ++ (lw_privs_4 ++ (lw_privs_5 ++ (lw_privs_6 ++ (lw_privs_7 ++ (lw_privs_8))))))), lw_okq q
  exact List.forall_mem_append.mpr ⟨lw_r1, List.forall_mem_append.mpr ⟨lw_r2, List.forall_mem_append.mpr ⟨lw_r3, List.forall_mem_append.mpr ⟨lw_r4, List.forall_mem_append.mpr ⟨lw_r5, List.forall_mem_append.mpr ⟨lw_r6, List.forall_mem_append.mpr ⟨lw_r7, lw_r8⟩⟩⟩⟩⟩⟩⟩
def RX0 : String := "SoleraCellar$Asker"
def TX0 : u_T := fun k => match k with
  | 0 => ("SoleraCellar$Asker", "pile", "[I", true)
  | 1 => ("SoleraCellar$Asker", "height", "I", false)
  | 2 => ("SoleraCellar$Asker", "stock", "LSoleraCellar$Stock;", false)
  | 3 => ("SoleraCellar$Asker", "cask", "I", false)
  | 4 => ("SoleraCellar$Asker", "done", "I", false)
  | _ => ("SoleraCellar$Asker", "latest", "I", false)
def tyX0 : Nat → FieldType := fun k => match k with
  | 0 => .array .int
  | 1 => .int
  | 2 => .object "SoleraCellar$Stock"
  | 3 => .int
  | 4 => .int
  | _ => .int
abbrev wsX00 : List Cond := u_ws RX0 TX0 6
theorem nmX0 : ∀ a, a < 6 → ∀ b, b < 6 → a ≠ b → (TX0 a).2.1 ≠ (TX0 b).2.1 := by decide +kernel
theorem tyX0_ok : ∀ k, k < 6 → parseFieldDescriptor (TX0 k).2.2.1 = some (tyX0 k) := by decide +kernel
def RX1 : String := "SoleraCellar$History"
def TX1 : u_T := fun k => match k with
  | 0 => ("SoleraCellar$History", "ahead", "[LSoleraCellar$Stock;", true)
  | 1 => ("SoleraCellar$History", "kinds", "[I", true)
  | 2 => ("SoleraCellar$History", "next", "I", false)
  | _ => ("SoleraCellar$History", "count", "I", false)
def tyX1 : Nat → FieldType := fun k => match k with
  | 0 => .array (.object "SoleraCellar$Stock")
  | 1 => .array .int
  | 2 => .int
  | _ => .int
abbrev wsX10 : List Cond := u_ws RX1 TX1 4
theorem nmX1 : ∀ a, a < 4 → ∀ b, b < 4 → a ≠ b → (TX1 a).2.1 ≠ (TX1 b).2.1 := by decide +kernel
theorem tyX1_ok : ∀ k, k < 4 → parseFieldDescriptor (TX1 k).2.2.1 = some (tyX1 k) := by decide +kernel
def RX2 : String := "SoleraCellar$Reader"
def TX2 : u_T := fun k => match k with
  | 0 => ("SoleraCellar$Reader", "tape", "LSoleraCellar$Tape;", true)
  | 1 => ("SoleraCellar$Reader", "draft", "LSoleraCellar$Text;", true)
  | 2 => ("SoleraCellar$Reader", "laws", "Z", false)
  | 3 => ("SoleraCellar$Reader", "start", "I", false)
  | 4 => ("SoleraCellar$Reader", "end", "I", false)
  | 5 => ("SoleraCellar$Reader", "kind", "I", false)
  | 6 => ("SoleraCellar$Reader", "value", "I", false)
  | 7 => ("SoleraCellar$Reader", "parts", "I", false)
  | 8 => ("SoleraCellar$Reader", "depth", "I", false)
  | _ => ("SoleraCellar$Reader", "fault", "I", false)
def tyX2 : Nat → FieldType := fun k => match k with
  | 0 => .object "SoleraCellar$Tape"
  | 1 => .object "SoleraCellar$Text"
  | 2 => .boolean
  | 3 => .int
  | 4 => .int
  | 5 => .int
  | 6 => .int
  | 7 => .int
  | 8 => .int
  | _ => .int
abbrev wsX20 : List Cond := u_ws RX2 TX2 10
theorem nmX2 : ∀ a, a < 10 → ∀ b, b < 10 → a ≠ b → (TX2 a).2.1 ≠ (TX2 b).2.1 := by decide +kernel
theorem tyX2_ok : ∀ k, k < 10 → parseFieldDescriptor (TX2 k).2.2.1 = some (tyX2 k) := by decide +kernel
def RX3 : String := "SoleraCellar$State"
def TX3 : u_T := fun k => match k with
  | 0 => ("SoleraCellar$State", "stock", "LSoleraCellar$Stock;", true)
  | 1 => ("SoleraCellar$State", "noLaw", "LSoleraCellar$Text;", true)
  | 2 => ("SoleraCellar$State", "laws", "[LSoleraCellar$Text;", true)
  | 3 => ("SoleraCellar$State", "plans", "[LSoleraCellar$Text;", true)
  | 4 => ("SoleraCellar$State", "facts", "[I", true)
  | 5 => ("SoleraCellar$State", "answers", "[I", true)
  | 6 => ("SoleraCellar$State", "lawCount", "I", false)
  | 7 => ("SoleraCellar$State", "planCount", "I", false)
  | 8 => ("SoleraCellar$State", "tastings", "I", false)
  | _ => ("SoleraCellar$State", "inForce", "I", false)
def tyX3 : Nat → FieldType := fun k => match k with
  | 0 => .object "SoleraCellar$Stock"
  | 1 => .object "SoleraCellar$Text"
  | 2 => .array (.object "SoleraCellar$Text")
  | 3 => .array (.object "SoleraCellar$Text")
  | 4 => .array .int
  | 5 => .array .int
  | 6 => .int
  | 7 => .int
  | 8 => .int
  | _ => .int
abbrev wsX30 : List Cond := u_ws RX3 TX3 10
theorem nmX3 : ∀ a, a < 10 → ∀ b, b < 10 → a ≠ b → (TX3 a).2.1 ≠ (TX3 b).2.1 := by decide +kernel
theorem tyX3_ok : ∀ k, k < 10 → parseFieldDescriptor (TX3 k).2.2.1 = some (tyX3 k) := by decide +kernel
def RX4 : String := "SoleraCellar$Stock"
def TX4 : u_T := fun k => match k with
  | 0 => ("SoleraCellar$Stock", "tiers", "[I", true)
  | 1 => ("SoleraCellar$Stock", "sizes", "[I", true)
  | 2 => ("SoleraCellar$Stock", "held", "[I", true)
  | 3 => ("SoleraCellar$Stock", "years", "[J", true)
  | 4 => ("SoleraCellar$Stock", "drops", "[I", true)
  | 5 => ("SoleraCellar$Stock", "terms", "[I", true)
  | 6 => ("SoleraCellar$Stock", "casks", "I", false)
  | _ => ("SoleraCellar$Stock", "bottled", "I", false)
def tyX4 : Nat → FieldType := fun k => match k with
  | 0 => .array .int
  | 1 => .array .int
  | 2 => .array .int
  | 3 => .array .long
  | 4 => .array .int
  | 5 => .array .int
  | 6 => .int
  | _ => .int
abbrev wsX40 : List Cond := u_ws RX4 TX4 8
theorem nmX4 : ∀ a, a < 8 → ∀ b, b < 8 → a ≠ b → (TX4 a).2.1 ≠ (TX4 b).2.1 := by decide +kernel
theorem tyX4_ok : ∀ k, k < 8 → parseFieldDescriptor (TX4 k).2.2.1 = some (tyX4 k) := by decide +kernel
def RX5 : String := "SoleraCellar$Tape"
def TX5 : u_T := fun k => match k with
  | 0 => ("SoleraCellar$Tape", "bytes", "[I", true)
  | _ => ("SoleraCellar$Tape", "length", "I", false)
def tyX5 : Nat → FieldType := fun k => match k with
  | 0 => .array .int
  | _ => .int
abbrev wsX50 : List Cond := u_ws RX5 TX5 2
theorem nmX5 : ∀ a, a < 2 → ∀ b, b < 2 → a ≠ b → (TX5 a).2.1 ≠ (TX5 b).2.1 := by decide +kernel
theorem tyX5_ok : ∀ k, k < 2 → parseFieldDescriptor (TX5 k).2.2.1 = some (tyX5 k) := by decide +kernel
def RX6 : String := "SoleraCellar$Text"
def TX6 : u_T := fun k => match k with
  | 0 => ("SoleraCellar$Text", "heads", "[I", true)
  | 1 => ("SoleraCellar$Text", "steps", "[I", true)
  | 2 => ("SoleraCellar$Text", "clauses", "I", false)
  | _ => ("SoleraCellar$Text", "size", "I", false)
def tyX6 : Nat → FieldType := fun k => match k with
  | 0 => .array .int
  | 1 => .array .int
  | 2 => .int
  | _ => .int
abbrev wsX60 : List Cond := u_ws RX6 TX6 4
theorem nmX6 : ∀ a, a < 4 → ∀ b, b < 4 → a ≠ b → (TX6 a).2.1 ≠ (TX6 b).2.1 := by decide +kernel
theorem tyX6_ok : ∀ k, k < 4 → parseFieldDescriptor (TX6 k).2.2.1 = some (tyX6 k) := by decide +kernel
def RX7 : String := "SoleraCellar$Worker"
def TX7 : u_T := fun k => match k with
  | 0 => ("SoleraCellar$Worker", "asker", "LSoleraCellar$Asker;", true)
  | 1 => ("SoleraCellar$Worker", "taken", "[I", true)
  | 2 => ("SoleraCellar$Worker", "stock", "LSoleraCellar$Stock;", false)
  | 3 => ("SoleraCellar$Worker", "law", "LSoleraCellar$Text;", false)
  | 4 => ("SoleraCellar$Worker", "bottles", "I", false)
  | 5 => ("SoleraCellar$Worker", "youngest", "I", false)
  | _ => ("SoleraCellar$Worker", "skipped", "Z", false)
def tyX7 : Nat → FieldType := fun k => match k with
  | 0 => .object "SoleraCellar$Asker"
  | 1 => .array .int
  | 2 => .object "SoleraCellar$Stock"
  | 3 => .object "SoleraCellar$Text"
  | 4 => .int
  | 5 => .int
  | _ => .boolean
abbrev wsX70 : List Cond := u_ws RX7 TX7 7
theorem nmX7 : ∀ a, a < 7 → ∀ b, b < 7 → a ≠ b → (TX7 a).2.1 ≠ (TX7 b).2.1 := by decide +kernel
theorem tyX7_ok : ∀ k, k < 7 → parseFieldDescriptor (TX7 k).2.2.1 = some (tyX7 k) := by decide +kernel
def RX8 : String := "SoleraCellar"
def TX8 : u_T := fun k => match k with
  | 0 => ("SoleraCellar", "tape", "LSoleraCellar$Tape;", true)
  | 1 => ("SoleraCellar", "reader", "LSoleraCellar$Reader;", true)
  | 2 => ("SoleraCellar", "now", "LSoleraCellar$State;", true)
  | 3 => ("SoleraCellar", "images", "[LSoleraCellar$State;", true)
  | 4 => ("SoleraCellar", "kept", "[Z", true)
  | 5 => ("SoleraCellar", "history", "LSoleraCellar$History;", true)
  | 6 => ("SoleraCellar", "paper", "LSoleraCellar$Stock;", true)
  | 7 => ("SoleraCellar", "harvested", "LSoleraCellar$Stock;", true)
  | 8 => ("SoleraCellar", "worker", "LSoleraCellar$Worker;", true)
  | 9 => ("SoleraCellar", "chances", "[J", true)
  | 10 => ("SoleraCellar", "refusals", "[I", true)
  | 11 => ("SoleraCellar", "status", "I", false)
  | 12 => ("SoleraCellar", "leaks", "I", false)
  | 13 => ("SoleraCellar", "fault", "I", false)
  | _ => ("SoleraCellar", "stopped", "I", false)
def tyX8 : Nat → FieldType := fun k => match k with
  | 0 => .object "SoleraCellar$Tape"
  | 1 => .object "SoleraCellar$Reader"
  | 2 => .object "SoleraCellar$State"
  | 3 => .array (.object "SoleraCellar$State")
  | 4 => .array .boolean
  | 5 => .object "SoleraCellar$History"
  | 6 => .object "SoleraCellar$Stock"
  | 7 => .object "SoleraCellar$Stock"
  | 8 => .object "SoleraCellar$Worker"
  | 9 => .array .long
  | 10 => .array .int
  | 11 => .int
  | 12 => .int
  | 13 => .int
  | _ => .int
abbrev wsX80 : List Cond := u_ws RX8 TX8 15
theorem nmX8 : ∀ a, a < 15 → ∀ b, b < 15 → a ≠ b → (TX8 a).2.1 ≠ (TX8 b).2.1 := by decide +kernel
theorem tyX8_ok : ∀ k, k < 15 → parseFieldDescriptor (TX8 k).2.2.1 = some (tyX8 k) := by decide +kernel
def RX9 : String := "SoleraCellarModel"
def TX9 : u_T := fun k => match k with
  | 0 => ("SoleraCellarModel", "thrown", "I", false)
  | 1 => ("SoleraCellarModel", "status", "I", false)
  | 2 => ("SoleraCellarModel", "refusals", "[I", true)
  | 3 => ("SoleraCellarModel", "row", "[I", true)
  | 4 => ("SoleraCellarModel", "images", "[I", true)
  | 5 => ("SoleraCellarModel", "isKept", "[Z", true)
  | 6 => ("SoleraCellarModel", "undos", "[I", true)
  | 7 => ("SoleraCellarModel", "sorts", "[I", true)
  | 8 => ("SoleraCellarModel", "nUndo", "I", false)
  | 9 => ("SoleraCellarModel", "undosBefore", "[I", true)
  | 10 => ("SoleraCellarModel", "sortsBefore", "[I", true)
  | 11 => ("SoleraCellarModel", "leaks", "I", false)
  | 12 => ("SoleraCellarModel", "tape", "[I", true)
  | 13 => ("SoleraCellarModel", "taped", "I", false)
  | 14 => ("SoleraCellarModel", "from", "I", false)
  | 15 => ("SoleraCellarModel", "to", "I", false)
  | 16 => ("SoleraCellarModel", "sort", "I", false)
  | 17 => ("SoleraCellarModel", "worth", "J", false)
  | 18 => ("SoleraCellarModel", "fault", "I", false)
  | 19 => ("SoleraCellarModel", "bad", "Z", false)
  | 20 => ("SoleraCellarModel", "ordered", "Z", false)
  | 21 => ("SoleraCellarModel", "nClauses", "I", false)
  | 22 => ("SoleraCellarModel", "nClause", "[I", true)
  | 23 => ("SoleraCellarModel", "nCode", "I", false)
  | 24 => ("SoleraCellarModel", "nOp", "[I", true)
  | 25 => ("SoleraCellarModel", "nArg", "[I", true)
  | 26 => ("SoleraCellarModel", "nLeaves", "I", false)
  | 27 => ("SoleraCellarModel", "pile", "[I", true)
  | 28 => ("SoleraCellarModel", "pileAt", "[I", true)
  | 29 => ("SoleraCellarModel", "piled", "I", false)
  | 30 => ("SoleraCellarModel", "opened", "I", false)
  | 31 => ("SoleraCellarModel", "words", "[J", true)
  | 32 => ("SoleraCellarModel", "orderWords", "[J", true)
  | 33 => ("SoleraCellarModel", "heads", "[J", true)
  | 34 => ("SoleraCellarModel", "law", "I", false)
  | 35 => ("SoleraCellarModel", "set", "[J", true)
  | 36 => ("SoleraCellarModel", "now", "[J", true)
  | 37 => ("SoleraCellarModel", "rest", "[J", true)
  | 38 => ("SoleraCellarModel", "broken", "Z", false)
  | 39 => ("SoleraCellarModel", "value", "J", false)
  | 40 => ("SoleraCellarModel", "sum", "J", false)
  | 41 => ("SoleraCellarModel", "taken", "[I", true)
  | 42 => ("SoleraCellarModel", "yielded", "I", false)
  | 43 => ("SoleraCellarModel", "leastMean", "I", false)
  | 44 => ("SoleraCellarModel", "acts", "[J", true)
  | 45 => ("SoleraCellarModel", "nOrder", "[I", true)
  | 46 => ("SoleraCellarModel", "done", "I", false)
  | 47 => ("SoleraCellarModel", "latest", "I", false)
  | 48 => ("SoleraCellarModel", "stopped", "I", false)
  | 49 => ("SoleraCellarModel", "off", "Z", false)
  | 50 => ("SoleraCellarModel", "skipped", "Z", false)
  | 51 => ("SoleraCellarModel", "parts", "[J", true)
  | 52 => ("SoleraCellarModel", "state", "J", false)
  | 53 => ("SoleraCellarModel", "drawn", "[I", true)
  | _ => ("SoleraCellarModel", "drawnCasks", "I", false)
def tyX9 : Nat → FieldType := fun k => match k with
  | 0 => .int
  | 1 => .int
  | 2 => .array .int
  | 3 => .array .int
  | 4 => .array .int
  | 5 => .array .boolean
  | 6 => .array .int
  | 7 => .array .int
  | 8 => .int
  | 9 => .array .int
  | 10 => .array .int
  | 11 => .int
  | 12 => .array .int
  | 13 => .int
  | 14 => .int
  | 15 => .int
  | 16 => .int
  | 17 => .long
  | 18 => .int
  | 19 => .boolean
  | 20 => .boolean
  | 21 => .int
  | 22 => .array .int
  | 23 => .int
  | 24 => .array .int
  | 25 => .array .int
  | 26 => .int
  | 27 => .array .int
  | 28 => .array .int
  | 29 => .int
  | 30 => .int
  | 31 => .array .long
  | 32 => .array .long
  | 33 => .array .long
  | 34 => .int
  | 35 => .array .long
  | 36 => .array .long
  | 37 => .array .long
  | 38 => .boolean
  | 39 => .long
  | 40 => .long
  | 41 => .array .int
  | 42 => .int
  | 43 => .int
  | 44 => .array .long
  | 45 => .array .int
  | 46 => .int
  | 47 => .int
  | 48 => .int
  | 49 => .boolean
  | 50 => .boolean
  | 51 => .array .long
  | 52 => .long
  | 53 => .array .int
  | _ => .int
abbrev wsX90 : List Cond := u_ws RX9 TX9 55
theorem nmX9 : ∀ a, a < 55 → ∀ b, b < 55 → a ≠ b → (TX9 a).2.1 ≠ (TX9 b).2.1 := by decide +kernel
theorem tyX9_ok : ∀ k, k < 55 → parseFieldDescriptor (TX9 k).2.2.1 = some (tyX9 k) := by decide +kernel
abbrev cX0_init : ByteArray := prog_2_method_1_code
def yX0_init : MethodName := ⟨RX0, "<init>", "(LSoleraCellar$Stock;)V"⟩
abbrev cX0_startText : ByteArray := prog_2_method_2_code
def yX0_startText : MethodName := ⟨RX0, "startText", "()V"⟩
abbrev cX0_ask : ByteArray := prog_2_method_3_code
def yX0_ask : MethodName := ⟨RX0, "ask", "(LSoleraCellar$Text;II)I"⟩
abbrev cX0_joins : ByteArray := prog_2_method_4_code
def yX0_joins : MethodName := ⟨RX0, "joins", "(I)Z"⟩
abbrev cX0_valueOfCellar : ByteArray := prog_2_method_5_code
def yX0_valueOfCellar : MethodName := ⟨RX0, "valueOfCellar", "(I)I"⟩
abbrev cX0_valueOfCask : ByteArray := prog_2_method_6_code
def yX0_valueOfCask : MethodName := ⟨RX0, "valueOfCask", "(II)I"⟩
abbrev cX0_put : ByteArray := prog_2_method_7_code
def yX0_put : MethodName := ⟨RX0, "put", "(I)V"⟩
abbrev cX0_lift : ByteArray := prog_2_method_8_code
def yX0_lift : MethodName := ⟨RX0, "lift", "()I"⟩
abbrev cX1_init : ByteArray := prog_3_method_1_code
def yX1_init : MethodName := ⟨RX1, "<init>", "()V"⟩
abbrev cX1_clear : ByteArray := prog_3_method_2_code
def yX1_clear : MethodName := ⟨RX1, "clear", "()V"⟩
abbrev cX1_note : ByteArray := prog_3_method_3_code
def yX1_note : MethodName := ⟨RX1, "note", "(LSoleraCellar$Stock;)V"⟩
abbrev cX1_keep : ByteArray := prog_3_method_4_code
def yX1_keep : MethodName := ⟨RX1, "keep", "(I)V"⟩
abbrev cX1_takeBack : ByteArray := prog_3_method_5_code
def yX1_takeBack : MethodName := ⟨RX1, "takeBack", "(LSoleraCellar$Stock;)I"⟩
abbrev cX2_init : ByteArray := prog_4_method_1_code
def yX2_init : MethodName := ⟨RX2, "<init>", "(LSoleraCellar$Tape;)V"⟩
abbrev cX2_read : ByteArray := prog_4_method_2_code
def yX2_read : MethodName := ⟨RX2, "read", "(Z)I"⟩
abbrev cX2_clause : ByteArray := prog_4_method_3_code
def yX2_clause : MethodName := ⟨RX2, "clause", "()Z"⟩
abbrev cX2_lawVerb : ByteArray := prog_4_method_4_code
def yX2_lawVerb : MethodName := ⟨RX2, "lawVerb", "()I"⟩
abbrev cX2_orderVerb : ByteArray := prog_4_method_5_code
def yX2_orderVerb : MethodName := ⟨RX2, "orderVerb", "()I"⟩
abbrev cX2_sumsBehind : ByteArray := prog_4_method_6_code
def yX2_sumsBehind : MethodName := ⟨RX2, "sumsBehind", "(I)I"⟩
abbrev cX2_repeated : ByteArray := prog_4_method_7_code
def yX2_repeated : MethodName := ⟨RX2, "repeated", "()Z"⟩
abbrev cX2_test : ByteArray := prog_4_method_8_code
def yX2_test : MethodName := ⟨RX2, "test", "()Z"⟩
abbrev cX2_both : ByteArray := prog_4_method_9_code
def yX2_both : MethodName := ⟨RX2, "both", "()Z"⟩
abbrev cX2_plain : ByteArray := prog_4_method_10_code
def yX2_plain : MethodName := ⟨RX2, "plain", "()Z"⟩
abbrev cX2_compared : ByteArray := prog_4_method_11_code
def yX2_compared : MethodName := ⟨RX2, "compared", "()Z"⟩
abbrev cX2_sum : ByteArray := prog_4_method_12_code
def yX2_sum : MethodName := ⟨RX2, "sum", "()Z"⟩
abbrev cX2_term : ByteArray := prog_4_method_13_code
def yX2_term : MethodName := ⟨RX2, "term", "()Z"⟩
abbrev cX2_part : ByteArray := prog_4_method_14_code
def yX2_part : MethodName := ⟨RX2, "part", "()Z"⟩
abbrev cX2_wordWritten : ByteArray := prog_4_method_15_code
def yX2_wordWritten : MethodName := ⟨RX2, "wordWritten", "(I)Z"⟩
abbrev cX2_lawWord : ByteArray := prog_4_method_16_code
def yX2_lawWord : MethodName := ⟨RX2, "lawWord", "()I"⟩
abbrev cX2_orderWord : ByteArray := prog_4_method_17_code
def yX2_orderWord : MethodName := ⟨RX2, "orderWord", "()I"⟩
abbrev cX2_enters : ByteArray := prog_4_method_18_code
def yX2_enters : MethodName := ⟨RX2, "enters", "()Z"⟩
abbrev cX2_leaves : ByteArray := prog_4_method_19_code
def yX2_leaves : MethodName := ⟨RX2, "leaves", "(Ljava/lang/String;)Z"⟩
abbrev cX2_wrong : ByteArray := prog_4_method_20_code
def yX2_wrong : MethodName := ⟨RX2, "wrong", "()Z"⟩
abbrev cX2_is : ByteArray := prog_4_method_21_code
def yX2_is : MethodName := ⟨RX2, "is", "(Ljava/lang/String;)Z"⟩
abbrev cX2_next : ByteArray := prog_4_method_22_code
def yX2_next : MethodName := ⟨RX2, "next", "()V"⟩
abbrev cX3_init : ByteArray := prog_5_method_1_code
def yX3_init : MethodName := ⟨RX3, "<init>", "()V"⟩
abbrev cX3_hasLaw : ByteArray := prog_5_method_2_code
def yX3_hasLaw : MethodName := ⟨RX3, "hasLaw", "(I)Z"⟩
abbrev cX3_hasPlan : ByteArray := prog_5_method_3_code
def yX3_hasPlan : MethodName := ⟨RX3, "hasPlan", "(I)Z"⟩
abbrev cX3_lawOf : ByteArray := prog_5_method_4_code
def yX3_lawOf : MethodName := ⟨RX3, "lawOf", "(I)LSoleraCellar$Text;"⟩
abbrev cX3_lawInForce : ByteArray := prog_5_method_5_code
def yX3_lawInForce : MethodName := ⟨RX3, "lawInForce", "()LSoleraCellar$Text;"⟩
abbrev cX3_copyFrom : ByteArray := prog_5_method_6_code
def yX3_copyFrom : MethodName := ⟨RX3, "copyFrom", "(LSoleraCellar$State;)V"⟩
abbrev cX4_init : ByteArray := prog_6_method_1_code
def yX4_init : MethodName := ⟨RX4, "<init>", "()V"⟩
abbrev cX4_has : ByteArray := prog_6_method_2_code
def yX4_has : MethodName := ⟨RX4, "has", "(I)Z"⟩
abbrev cX4_isLastYear : ByteArray := prog_6_method_3_code
def yX4_isLastYear : MethodName := ⟨RX4, "isLastYear", "()Z"⟩
abbrev cX4_add : ByteArray := prog_6_method_4_code
def yX4_add : MethodName := ⟨RX4, "add", "(II)I"⟩
abbrev cX4_addNew : ByteArray := prog_6_method_5_code
def yX4_addNew : MethodName := ⟨RX4, "addNew", "(II)V"⟩
abbrev cX4_measures : ByteArray := prog_6_method_6_code
def yX4_measures : MethodName := ⟨RX4, "measures", "(I)I"⟩
abbrev cX4_roomFor : ByteArray := prog_6_method_7_code
def yX4_roomFor : MethodName := ⟨RX4, "roomFor", "(I)I"⟩
abbrev cX4_mean : ByteArray := prog_6_method_8_code
def yX4_mean : MethodName := ⟨RX4, "mean", "(I)I"⟩
abbrev cX4_asOldAs : ByteArray := prog_6_method_9_code
def yX4_asOldAs : MethodName := ⟨RX4, "asOldAs", "(II)J"⟩
abbrev cX4_label : ByteArray := prog_6_method_10_code
def yX4_label : MethodName := ⟨RX4, "label", "(I)I"⟩
abbrev cX4_takeOut : ByteArray := prog_6_method_11_code
def yX4_takeOut : MethodName := ⟨RX4, "takeOut", "(II[I)V"⟩
abbrev cX4_putIn : ByteArray := prog_6_method_12_code
def yX4_putIn : MethodName := ⟨RX4, "putIn", "(I[I)V"⟩
abbrev cX4_lossOf : ByteArray := prog_6_method_13_code
def yX4_lossOf : MethodName := ⟨RX4, "lossOf", "(II)I"⟩
abbrev cX4_growOlder : ByteArray := prog_6_method_14_code
def yX4_growOlder : MethodName := ⟨RX4, "growOlder", "(II)I"⟩
abbrev cX4_copyFrom : ByteArray := prog_6_method_15_code
def yX4_copyFrom : MethodName := ⟨RX4, "copyFrom", "(LSoleraCellar$Stock;)V"⟩
abbrev cX5_init : ByteArray := prog_7_method_1_code
def yX5_init : MethodName := ⟨RX5, "<init>", "()V"⟩
abbrev cX5_add : ByteArray := prog_7_method_2_code
def yX5_add : MethodName := ⟨RX5, "add", "(I)V"⟩
abbrev cX6_init : ByteArray := prog_8_method_1_code
def yX6_init : MethodName := ⟨RX6, "<init>", "(II)V"⟩
abbrev cX6_trimmed : ByteArray := prog_8_method_2_code
def yX6_trimmed : MethodName := ⟨RX6, "trimmed", "()LSoleraCellar$Text;"⟩
abbrev cX6_clear : ByteArray := prog_8_method_3_code
def yX6_clear : MethodName := ⟨RX6, "clear", "()V"⟩
abbrev cX6_open : ByteArray := prog_8_method_4_code
def yX6_open : MethodName := ⟨RX6, "open", "(I)V"⟩
abbrev cX6_repeat : ByteArray := prog_8_method_5_code
def yX6_repeat : MethodName := ⟨RX6, "repeat", "(I)V"⟩
abbrev cX6_endSection : ByteArray := prog_8_method_6_code
def yX6_endSection : MethodName := ⟨RX6, "endSection", "(I)V"⟩
abbrev cX6_write : ByteArray := prog_8_method_7_code
def yX6_write : MethodName := ⟨RX6, "write", "(II)V"⟩
abbrev cX6_aimHere : ByteArray := prog_8_method_8_code
def yX6_aimHere : MethodName := ⟨RX6, "aimHere", "(I)V"⟩
abbrev cX6_kindOf : ByteArray := prog_8_method_9_code
def yX6_kindOf : MethodName := ⟨RX6, "kindOf", "(I)I"⟩
abbrev cX6_timesOf : ByteArray := prog_8_method_10_code
def yX6_timesOf : MethodName := ⟨RX6, "timesOf", "(I)I"⟩
abbrev cX6_startOf : ByteArray := prog_8_method_11_code
def yX6_startOf : MethodName := ⟨RX6, "startOf", "(II)I"⟩
abbrev cX7_init : ByteArray := prog_9_method_1_code
def yX7_init : MethodName := ⟨RX7, "<init>", "(LSoleraCellar$Stock;LSoleraCellar$Text;)V"⟩
abbrev cX7_begin : ByteArray := prog_9_method_2_code
def yX7_begin : MethodName := ⟨RX7, "begin", "(LSoleraCellar$Stock;LSoleraCellar$Text;)V"⟩
abbrev cX7_tells : ByteArray := prog_9_method_3_code
def yX7_tells : MethodName := ⟨RX7, "tells", "(II)I"⟩
abbrev cX7_pourInto : ByteArray := prog_9_method_4_code
def yX7_pourInto : MethodName := ⟨RX7, "pourInto", "(II)I"⟩
abbrev cX7_rackOver : ByteArray := prog_9_method_5_code
def yX7_rackOver : MethodName := ⟨RX7, "rackOver", "(III)I"⟩
abbrev cX7_bottleFrom : ByteArray := prog_9_method_6_code
def yX7_bottleFrom : MethodName := ⟨RX7, "bottleFrom", "(II)I"⟩
abbrev cX7_passYear : ByteArray := prog_9_method_7_code
def yX7_passYear : MethodName := ⟨RX7, "passYear", "()I"⟩
abbrev cX7_step : ByteArray := prog_9_method_8_code
def yX7_step : MethodName := ⟨RX7, "step", "(LSoleraCellar$Text;I)I"⟩
abbrev cX7_runOrders : ByteArray := prog_9_method_9_code
def yX7_runOrders : MethodName := ⟨RX7, "runOrders", "(LSoleraCellar$Text;LSoleraCellar$History;)I"⟩
abbrev cX7_planYears : ByteArray := prog_9_method_10_code
def yX7_planYears : MethodName := ⟨RX7, "planYears", "(LSoleraCellar$Text;I)V"⟩
abbrev cX7_harvestYear : ByteArray := prog_9_method_11_code
def yX7_harvestYear : MethodName := ⟨RX7, "harvestYear", "(I)I"⟩
abbrev cX7_drawAfter : ByteArray := prog_9_method_12_code
def yX7_drawAfter : MethodName := ⟨RX7, "drawAfter", "(I)I"⟩
abbrev cX8_init : ByteArray := prog_1_method_1_code
def yX8_init : MethodName := ⟨RX8, "<init>", "()V"⟩
abbrev cX8_cask : ByteArray := prog_1_method_2_code
def yX8_cask : MethodName := ⟨RX8, "cask", "(II)I"⟩
abbrev cX8_of : ByteArray := prog_1_method_3_code
def yX8_of : MethodName := ⟨RX8, "of", "(II)I"⟩
abbrev cX8_old : ByteArray := prog_1_method_4_code
def yX8_old : MethodName := ⟨RX8, "old", "(II)J"⟩
abbrev cX8_terms : ByteArray := prog_1_method_5_code
def yX8_terms : MethodName := ⟨RX8, "terms", "(II)I"⟩
abbrev cX8_feed : ByteArray := prog_1_method_6_code
def yX8_feed : MethodName := ⟨RX8, "feed", "(IIIII)I"⟩
abbrev cX8_end : ByteArray := prog_1_method_7_code
def yX8_end : MethodName := ⟨RX8, "end", "(I)I"⟩
abbrev cX8_row : ByteArray := prog_1_method_8_code
def yX8_row : MethodName := ⟨RX8, "row", "()I"⟩
abbrev cX8_leaks : ByteArray := prog_1_method_9_code
def yX8_leaks : MethodName := ⟨RX8, "leaks", "()I"⟩
abbrev cX8_law : ByteArray := prog_1_method_10_code
def yX8_law : MethodName := ⟨RX8, "law", "()I"⟩
abbrev cX8_plan : ByteArray := prog_1_method_11_code
def yX8_plan : MethodName := ⟨RX8, "plan", "()I"⟩
abbrev cX8_orders : ByteArray := prog_1_method_12_code
def yX8_orders : MethodName := ⟨RX8, "orders", "()I"⟩
abbrev cX8_fault : ByteArray := prog_1_method_13_code
def yX8_fault : MethodName := ⟨RX8, "fault", "()I"⟩
abbrev cX8_stopped : ByteArray := prog_1_method_14_code
def yX8_stopped : MethodName := ⟨RX8, "stopped", "()I"⟩
abbrev cX8_force : ByteArray := prog_1_method_15_code
def yX8_force : MethodName := ⟨RX8, "force", "(I)I"⟩
abbrev cX8_pour : ByteArray := prog_1_method_16_code
def yX8_pour : MethodName := ⟨RX8, "pour", "(II)I"⟩
abbrev cX8_rack : ByteArray := prog_1_method_17_code
def yX8_rack : MethodName := ⟨RX8, "rack", "(III)I"⟩
abbrev cX8_bottle : ByteArray := prog_1_method_18_code
def yX8_bottle : MethodName := ⟨RX8, "bottle", "(II)I"⟩
abbrev cX8_pass : ByteArray := prog_1_method_19_code
def yX8_pass : MethodName := ⟨RX8, "pass", "()I"⟩
abbrev cX8_undo : ByteArray := prog_1_method_20_code
def yX8_undo : MethodName := ⟨RX8, "undo", "()I"⟩
abbrev cX8_byPlan : ByteArray := prog_1_method_21_code
def yX8_byPlan : MethodName := ⟨RX8, "byPlan", "(IIII)I"⟩
abbrev cX8_oldEnough : ByteArray := prog_1_method_22_code
def yX8_oldEnough : MethodName := ⟨RX8, "oldEnough", "(III)I"⟩
abbrev cX8_settled : ByteArray := prog_1_method_23_code
def yX8_settled : MethodName := ⟨RX8, "settled", "(II)I"⟩
abbrev cX8_starves : ByteArray := prog_1_method_24_code
def yX8_starves : MethodName := ⟨RX8, "starves", "(I)I"⟩
abbrev cX8_yields : ByteArray := prog_1_method_25_code
def yX8_yields : MethodName := ⟨RX8, "yields", "(II)I"⟩
abbrev cX8_best : ByteArray := prog_1_method_26_code
def yX8_best : MethodName := ⟨RX8, "best", "(II)I"⟩
abbrev cX8_tasted : ByteArray := prog_1_method_27_code
def yX8_tasted : MethodName := ⟨RX8, "tasted", "(II)I"⟩
abbrev cX8_forget : ByteArray := prog_1_method_28_code
def yX8_forget : MethodName := ⟨RX8, "forget", "()I"⟩
abbrev cX8_canBe : ByteArray := prog_1_method_29_code
def yX8_canBe : MethodName := ⟨RX8, "canBe", "()I"⟩
abbrev cX8_taste : ByteArray := prog_1_method_30_code
def yX8_taste : MethodName := ⟨RX8, "taste", "(I)I"⟩
abbrev cX8_few : ByteArray := prog_1_method_31_code
def yX8_few : MethodName := ⟨RX8, "few", "(II)J"⟩
abbrev cX8_compare : ByteArray := prog_1_method_32_code
def yX8_compare : MethodName := ⟨RX8, "compare", "(II)I"⟩
abbrev cX8_harvests : ByteArray := prog_1_method_33_code
def yX8_harvests : MethodName := ⟨RX8, "harvests", "(II)I"⟩
abbrev cX8_drawn : ByteArray := prog_1_method_34_code
def yX8_drawn : MethodName := ⟨RX8, "drawn", "(II)I"⟩
abbrev cX8_image : ByteArray := prog_1_method_35_code
def yX8_image : MethodName := ⟨RX8, "image", "(I)I"⟩
abbrev cX8_back : ByteArray := prog_1_method_36_code
def yX8_back : MethodName := ⟨RX8, "back", "(I)I"⟩
abbrev cX8_count : ByteArray := prog_1_method_37_code
def yX8_count : MethodName := ⟨RX8, "count", "(I)I"⟩
abbrev cX8_status : ByteArray := prog_1_method_38_code
def yX8_status : MethodName := ⟨RX8, "status", "()I"⟩
abbrev cX8_isWithin : ByteArray := prog_1_method_39_code
def yX8_isWithin : MethodName := ⟨RX8, "isWithin", "(III)Z"⟩
abbrev cX8_leastTerm : ByteArray := prog_1_method_40_code
def yX8_leastTerm : MethodName := ⟨RX8, "leastTerm", "(I)I"⟩
abbrev cX8_mostTerm : ByteArray := prog_1_method_41_code
def yX8_mostTerm : MethodName := ⟨RX8, "mostTerm", "(I)I"⟩
abbrev cX8_accept : ByteArray := prog_1_method_42_code
def yX8_accept : MethodName := ⟨RX8, "accept", "(I)I"⟩
abbrev cX8_refuse : ByteArray := prog_1_method_43_code
def yX8_refuse : MethodName := ⟨RX8, "refuse", "(I)I"⟩
abbrev cX8_cameFromTape : ByteArray := prog_1_method_44_code
def yX8_cameFromTape : MethodName := ⟨RX8, "cameFromTape", "(I)Z"⟩
abbrev cX8_startPaper : ByteArray := prog_1_method_45_code
def yX8_startPaper : MethodName := ⟨RX8, "startPaper", "()V"⟩
abbrev cX8_startWork : ByteArray := prog_1_method_46_code
def yX8_startWork : MethodName := ⟨RX8, "startWork", "()V"⟩
abbrev cX8_finishWork : ByteArray := prog_1_method_47_code
def yX8_finishWork : MethodName := ⟨RX8, "finishWork", "(II)I"⟩
abbrev cX8_fitsAllTasted : ByteArray := prog_1_method_48_code
def yX8_fitsAllTasted : MethodName := ⟨RX8, "fitsAllTasted", "(I)Z"⟩
abbrev cX8_factOf : ByteArray := prog_1_method_49_code
def yX8_factOf : MethodName := ⟨RX8, "factOf", "(II)I"⟩
abbrev cX8_mostAlike : ByteArray := prog_1_method_50_code
def yX8_mostAlike : MethodName := ⟨RX8, "mostAlike", "(II)I"⟩
abbrev cX9_init : ByteArray := prog_11_method_1_code
def yX9_init : MethodName := ⟨RX9, "<init>", "()V"⟩
abbrev cX9_in : ByteArray := prog_11_method_3_code
def yX9_in : MethodName := ⟨RX9, "in", "(JJJ)Z"⟩
abbrev cX9_is : ByteArray := prog_11_method_4_code
def yX9_is : MethodName := ⟨RX9, "is", "(II)Z"⟩
abbrev cX9_bounded : ByteArray := prog_11_method_5_code
def yX9_bounded : MethodName := ⟨RX9, "bounded", "(JII)I"⟩
abbrev cX9_tell : ByteArray := prog_11_method_6_code
def yX9_tell : MethodName := ⟨RX9, "tell", "(I)I"⟩
abbrev cX9_change : ByteArray := prog_11_method_7_code
def yX9_change : MethodName := ⟨RX9, "change", "(II)I"⟩
abbrev cX9_lasting : ByteArray := prog_11_method_8_code
def yX9_lasting : MethodName := ⟨RX9, "lasting", "(I)I"⟩
abbrev cX9_keepAll : ByteArray := prog_11_method_9_code
def yX9_keepAll : MethodName := ⟨RX9, "keepAll", "(I)V"⟩
abbrev cX9_putBack : ByteArray := prog_11_method_10_code
def yX9_putBack : MethodName := ⟨RX9, "putBack", "(I)V"⟩
abbrev cX9_remember : ByteArray := prog_11_method_11_code
def yX9_remember : MethodName := ⟨RX9, "remember", "(I)V"⟩
abbrev cX9_undo : ByteArray := prog_11_method_12_code
def yX9_undo : MethodName := ⟨RX9, "undo", "()I"⟩
abbrev cX9_image : ByteArray := prog_11_method_13_code
def yX9_image : MethodName := ⟨RX9, "image", "(I)I"⟩
abbrev cX9_back : ByteArray := prog_11_method_14_code
def yX9_back : MethodName := ⟨RX9, "back", "(I)I"⟩
abbrev cX9_isCask : ByteArray := prog_11_method_15_code
def yX9_isCask : MethodName := ⟨RX9, "isCask", "(I)Z"⟩
abbrev cX9_dropsOf : ByteArray := prog_11_method_16_code
def yX9_dropsOf : MethodName := ⟨RX9, "dropsOf", "(II)I"⟩
abbrev cX9_allOf : ByteArray := prog_11_method_17_code
def yX9_allOf : MethodName := ⟨RX9, "allOf", "(I)I"⟩
abbrev cX9_meanOf : ByteArray := prog_11_method_18_code
def yX9_meanOf : MethodName := ⟨RX9, "meanOf", "(I)I"⟩
abbrev cX9_wholeMean : ByteArray := prog_11_method_19_code
def yX9_wholeMean : MethodName := ⟨RX9, "wholeMean", "(I)I"⟩
abbrev cX9_olderThan : ByteArray := prog_11_method_20_code
def yX9_olderThan : MethodName := ⟨RX9, "olderThan", "(II)I"⟩
abbrev cX9_labelOf : ByteArray := prog_11_method_21_code
def yX9_labelOf : MethodName := ⟨RX9, "labelOf", "(I)I"⟩
abbrev cX9_roomOf : ByteArray := prog_11_method_22_code
def yX9_roomOf : MethodName := ⟨RX9, "roomOf", "(I)I"⟩
abbrev cX9_comes : ByteArray := prog_11_method_23_code
def yX9_comes : MethodName := ⟨RX9, "comes", "(II)I"⟩
abbrev cX9_cask : ByteArray := prog_11_method_24_code
def yX9_cask : MethodName := ⟨RX9, "cask", "(II)I"⟩
abbrev cX9_of : ByteArray := prog_11_method_25_code
def yX9_of : MethodName := ⟨RX9, "of", "(II)I"⟩
abbrev cX9_old : ByteArray := prog_11_method_26_code
def yX9_old : MethodName := ⟨RX9, "old", "(II)J"⟩
abbrev cX9_terms : ByteArray := prog_11_method_27_code
def yX9_terms : MethodName := ⟨RX9, "terms", "(II)I"⟩
abbrev cX9_row : ByteArray := prog_11_method_28_code
def yX9_row : MethodName := ⟨RX9, "row", "()I"⟩
abbrev cX9_leaks : ByteArray := prog_11_method_29_code
def yX9_leaks : MethodName := ⟨RX9, "leaks", "()I"⟩
abbrev cX9_four : ByteArray := prog_11_method_30_code
def yX9_four : MethodName := ⟨RX9, "four", "(I)V"⟩
abbrev cX9_feed : ByteArray := prog_11_method_31_code
def yX9_feed : MethodName := ⟨RX9, "feed", "(IIIII)I"⟩
abbrev cX9_end : ByteArray := prog_11_method_32_code
def yX9_end : MethodName := ⟨RX9, "end", "(I)I"⟩
abbrev cX9_isSmall : ByteArray := prog_11_method_33_code
def yX9_isSmall : MethodName := ⟨RX9, "isSmall", "(I)Z"⟩
abbrev cX9_isDigit : ByteArray := prog_11_method_34_code
def yX9_isDigit : MethodName := ⟨RX9, "isDigit", "(I)Z"⟩
abbrev cX9_begin : ByteArray := prog_11_method_35_code
def yX9_begin : MethodName := ⟨RX9, "begin", "()V"⟩
abbrev cX9_next : ByteArray := prog_11_method_36_code
def yX9_next : MethodName := ⟨RX9, "next", "()V"⟩
abbrev cX9_isWord : ByteArray := prog_11_method_37_code
def yX9_isWord : MethodName := ⟨RX9, "isWord", "(J)Z"⟩
abbrev cX9_isSign : ByteArray := prog_11_method_38_code
def yX9_isSign : MethodName := ⟨RX9, "isSign", "(I)Z"⟩
abbrev cX9_must : ByteArray := prog_11_method_39_code
def yX9_must : MethodName := ⟨RX9, "must", "(Z)V"⟩
abbrev cX9_number : ByteArray := prog_11_method_40_code
def yX9_number : MethodName := ⟨RX9, "number", "(JJ)I"⟩
abbrev cX9_fault : ByteArray := prog_11_method_41_code
def yX9_fault : MethodName := ⟨RX9, "fault", "()I"⟩
abbrev cX9_emit : ByteArray := prog_11_method_42_code
def yX9_emit : MethodName := ⟨RX9, "emit", "(II)V"⟩
abbrev cX9_push : ByteArray := prog_11_method_43_code
def yX9_push : MethodName := ⟨RX9, "push", "(II)V"⟩
abbrev cX9_binds : ByteArray := prog_11_method_44_code
def yX9_binds : MethodName := ⟨RX9, "binds", "(I)I"⟩
abbrev cX9_settle : ByteArray := prog_11_method_45_code
def yX9_settle : MethodName := ⟨RX9, "settle", "(I)V"⟩
abbrev cX9_inner : ByteArray := prog_11_method_46_code
def yX9_inner : MethodName := ⟨RX9, "inner", "()I"⟩
abbrev cX9_isCompared : ByteArray := prog_11_method_47_code
def yX9_isCompared : MethodName := ⟨RX9, "isCompared", "()Z"⟩
abbrev cX9_partAt : ByteArray := prog_11_method_48_code
def yX9_partAt : MethodName := ⟨RX9, "partAt", "()I"⟩
abbrev cX9_orderPartAt : ByteArray := prog_11_method_49_code
def yX9_orderPartAt : MethodName := ⟨RX9, "orderPartAt", "()I"⟩
abbrev cX9_openBracket : ByteArray := prog_11_method_50_code
def yX9_openBracket : MethodName := ⟨RX9, "openBracket", "(I)V"⟩
abbrev cX9_leaf : ByteArray := prog_11_method_51_code
def yX9_leaf : MethodName := ⟨RX9, "leaf", "(ZII)V"⟩
abbrev cX9_readPart : ByteArray := prog_11_method_52_code
def yX9_readPart : MethodName := ⟨RX9, "readPart", "()I"⟩
abbrev cX9_readPlain : ByteArray := prog_11_method_53_code
def yX9_readPlain : MethodName := ⟨RX9, "readPlain", "()I"⟩
abbrev cX9_behindSum : ByteArray := prog_11_method_54_code
def yX9_behindSum : MethodName := ⟨RX9, "behindSum", "(Z)I"⟩
abbrev cX9_behindTest : ByteArray := prog_11_method_55_code
def yX9_behindTest : MethodName := ⟨RX9, "behindTest", "()I"⟩
abbrev cX9_readExpression : ByteArray := prog_11_method_56_code
def yX9_readExpression : MethodName := ⟨RX9, "readExpression", "(Z)V"⟩
abbrev cX9_beginText : ByteArray := prog_11_method_57_code
def yX9_beginText : MethodName := ⟨RX9, "beginText", "(Z)V"⟩
abbrev cX9_endText : ByteArray := prog_11_method_58_code
def yX9_endText : MethodName := ⟨RX9, "endText", "()V"⟩
abbrev cX9_readLaw : ByteArray := prog_11_method_59_code
def yX9_readLaw : MethodName := ⟨RX9, "readLaw", "()V"⟩
abbrev cX9_law : ByteArray := prog_11_method_60_code
def yX9_law : MethodName := ⟨RX9, "law", "()I"⟩
abbrev cX9_isLaw : ByteArray := prog_11_method_61_code
def yX9_isLaw : MethodName := ⟨RX9, "isLaw", "(I)Z"⟩
abbrev cX9_force : ByteArray := prog_11_method_62_code
def yX9_force : MethodName := ⟨RX9, "force", "(I)I"⟩
abbrev cX9_factOf : ByteArray := prog_11_method_63_code
def yX9_factOf : MethodName := ⟨RX9, "factOf", "(II)J"⟩
abbrev cX9_reckon : ByteArray := prog_11_method_64_code
def yX9_reckon : MethodName := ⟨RX9, "reckon", "(IJJ)J"⟩
abbrev cX9_reckonAll : ByteArray := prog_11_method_65_code
def yX9_reckonAll : MethodName := ⟨RX9, "reckonAll", "(II)V"⟩
abbrev cX9_isSo : ByteArray := prog_11_method_66_code
def yX9_isSo : MethodName := ⟨RX9, "isSo", "(I)Z"⟩
abbrev cX9_tells : ByteArray := prog_11_method_67_code
def yX9_tells : MethodName := ⟨RX9, "tells", "(IIJ)J"⟩
abbrev cX9_losesOf : ByteArray := prog_11_method_68_code
def yX9_losesOf : MethodName := ⟨RX9, "losesOf", "(I)I"⟩
abbrev cX9_yieldsOf : ByteArray := prog_11_method_69_code
def yX9_yieldsOf : MethodName := ⟨RX9, "yieldsOf", "(I)I"⟩
abbrev cX9_isBarred : ByteArray := prog_11_method_70_code
def yX9_isBarred : MethodName := ⟨RX9, "isBarred", "(I)Z"⟩
abbrev cX9_takeOut : ByteArray := prog_11_method_71_code
def yX9_takeOut : MethodName := ⟨RX9, "takeOut", "(II)I"⟩
abbrev cX9_whyNotPour : ByteArray := prog_11_method_72_code
def yX9_whyNotPour : MethodName := ⟨RX9, "whyNotPour", "(II)I"⟩
abbrev cX9_pourIt : ByteArray := prog_11_method_73_code
def yX9_pourIt : MethodName := ⟨RX9, "pourIt", "(II)I"⟩
abbrev cX9_pourNow : ByteArray := prog_11_method_74_code
def yX9_pourNow : MethodName := ⟨RX9, "pourNow", "(II)I"⟩
abbrev cX9_pour : ByteArray := prog_11_method_75_code
def yX9_pour : MethodName := ⟨RX9, "pour", "(II)I"⟩
abbrev cX9_whyNotRack : ByteArray := prog_11_method_76_code
def yX9_whyNotRack : MethodName := ⟨RX9, "whyNotRack", "(III)I"⟩
abbrev cX9_rackIt : ByteArray := prog_11_method_77_code
def yX9_rackIt : MethodName := ⟨RX9, "rackIt", "(III)I"⟩
abbrev cX9_rackNow : ByteArray := prog_11_method_78_code
def yX9_rackNow : MethodName := ⟨RX9, "rackNow", "(III)I"⟩
abbrev cX9_rack : ByteArray := prog_11_method_79_code
def yX9_rack : MethodName := ⟨RX9, "rack", "(III)I"⟩
abbrev cX9_whyNotBottle : ByteArray := prog_11_method_80_code
def yX9_whyNotBottle : MethodName := ⟨RX9, "whyNotBottle", "(II)I"⟩
abbrev cX9_bottleIt : ByteArray := prog_11_method_81_code
def yX9_bottleIt : MethodName := ⟨RX9, "bottleIt", "(II)I"⟩
abbrev cX9_bottleNow : ByteArray := prog_11_method_82_code
def yX9_bottleNow : MethodName := ⟨RX9, "bottleNow", "(II)I"⟩
abbrev cX9_bottle : ByteArray := prog_11_method_83_code
def yX9_bottle : MethodName := ⟨RX9, "bottle", "(II)I"⟩
abbrev cX9_lossOf : ByteArray := prog_11_method_84_code
def yX9_lossOf : MethodName := ⟨RX9, "lossOf", "(I)I"⟩
abbrev cX9_passIt : ByteArray := prog_11_method_85_code
def yX9_passIt : MethodName := ⟨RX9, "passIt", "()I"⟩
abbrev cX9_passNow : ByteArray := prog_11_method_86_code
def yX9_passNow : MethodName := ⟨RX9, "passNow", "()I"⟩
abbrev cX9_pass : ByteArray := prog_11_method_87_code
def yX9_pass : MethodName := ⟨RX9, "pass", "()I"⟩
abbrev cX9_readSum : ByteArray := prog_11_method_88_code
def yX9_readSum : MethodName := ⟨RX9, "readSum", "(I)V"⟩
abbrev cX9_readBehind : ByteArray := prog_11_method_89_code
def yX9_readBehind : MethodName := ⟨RX9, "readBehind", "(JI)V"⟩
abbrev cX9_readOrder : ByteArray := prog_11_method_90_code
def yX9_readOrder : MethodName := ⟨RX9, "readOrder", "()V"⟩
abbrev cX9_readOrders : ByteArray := prog_11_method_91_code
def yX9_readOrders : MethodName := ⟨RX9, "readOrders", "()V"⟩
abbrev cX9_plan : ByteArray := prog_11_method_92_code
def yX9_plan : MethodName := ⟨RX9, "plan", "()I"⟩
abbrev cX9_loadPlan : ByteArray := prog_11_method_93_code
def yX9_loadPlan : MethodName := ⟨RX9, "loadPlan", "(I)V"⟩
abbrev cX9_isPlan : ByteArray := prog_11_method_94_code
def yX9_isPlan : MethodName := ⟨RX9, "isPlan", "(I)Z"⟩
abbrev cX9_sumOf : ByteArray := prog_11_method_95_code
def yX9_sumOf : MethodName := ⟨RX9, "sumOf", "(I)I"⟩
abbrev cX9_setNow : ByteArray := prog_11_method_96_code
def yX9_setNow : MethodName := ⟨RX9, "setNow", "()V"⟩
abbrev cX9_isAsked : ByteArray := prog_11_method_97_code
def yX9_isAsked : MethodName := ⟨RX9, "isAsked", "(I)Z"⟩
abbrev cX9_act : ByteArray := prog_11_method_98_code
def yX9_act : MethodName := ⟨RX9, "act", "(IIII)I"⟩
abbrev cX9_runOnce : ByteArray := prog_11_method_99_code
def yX9_runOnce : MethodName := ⟨RX9, "runOnce", "(I)I"⟩
abbrev cX9_orders : ByteArray := prog_11_method_100_code
def yX9_orders : MethodName := ⟨RX9, "orders", "()I"⟩
abbrev cX9_keepUndos : ByteArray := prog_11_method_101_code
def yX9_keepUndos : MethodName := ⟨RX9, "keepUndos", "()V"⟩
abbrev cX9_giveBack : ByteArray := prog_11_method_102_code
def yX9_giveBack : MethodName := ⟨RX9, "giveBack", "(I)V"⟩
abbrev cX9_stopped : ByteArray := prog_11_method_103_code
def yX9_stopped : MethodName := ⟨RX9, "stopped", "()I"⟩
abbrev cX9_planOnce : ByteArray := prog_11_method_104_code
def yX9_planOnce : MethodName := ⟨RX9, "planOnce", "(I)I"⟩
abbrev cX9_planYear : ByteArray := prog_11_method_105_code
def yX9_planYear : MethodName := ⟨RX9, "planYear", "()V"⟩
abbrev cX9_beginPlan : ByteArray := prog_11_method_106_code
def yX9_beginPlan : MethodName := ⟨RX9, "beginPlan", "(I)V"⟩
abbrev cX9_byPlan : ByteArray := prog_11_method_107_code
def yX9_byPlan : MethodName := ⟨RX9, "byPlan", "(IIII)I"⟩
abbrev cX9_oldEnough : ByteArray := prog_11_method_108_code
def yX9_oldEnough : MethodName := ⟨RX9, "oldEnough", "(III)I"⟩
abbrev cX9_settled : ByteArray := prog_11_method_109_code
def yX9_settled : MethodName := ⟨RX9, "settled", "(II)I"⟩
abbrev cX9_starves : ByteArray := prog_11_method_110_code
def yX9_starves : MethodName := ⟨RX9, "starves", "(I)I"⟩
abbrev cX9_yieldOf : ByteArray := prog_11_method_111_code
def yX9_yieldOf : MethodName := ⟨RX9, "yieldOf", "(II)I"⟩
abbrev cX9_yields : ByteArray := prog_11_method_112_code
def yX9_yields : MethodName := ⟨RX9, "yields", "(II)I"⟩
abbrev cX9_best : ByteArray := prog_11_method_113_code
def yX9_best : MethodName := ⟨RX9, "best", "(II)I"⟩
abbrev cX9_tasted : ByteArray := prog_11_method_114_code
def yX9_tasted : MethodName := ⟨RX9, "tasted", "(II)I"⟩
abbrev cX9_forget : ByteArray := prog_11_method_115_code
def yX9_forget : MethodName := ⟨RX9, "forget", "()I"⟩
abbrev cX9_tasteOf : ByteArray := prog_11_method_116_code
def yX9_tasteOf : MethodName := ⟨RX9, "tasteOf", "(II)I"⟩
abbrev cX9_thatCanBe : ByteArray := prog_11_method_117_code
def yX9_thatCanBe : MethodName := ⟨RX9, "thatCanBe", "()I"⟩
abbrev cX9_canBe : ByteArray := prog_11_method_118_code
def yX9_canBe : MethodName := ⟨RX9, "canBe", "()I"⟩
abbrev cX9_mostAlike : ByteArray := prog_11_method_119_code
def yX9_mostAlike : MethodName := ⟨RX9, "mostAlike", "(II)I"⟩
abbrev cX9_taste : ByteArray := prog_11_method_120_code
def yX9_taste : MethodName := ⟨RX9, "taste", "(I)I"⟩
abbrev cX9_few : ByteArray := prog_11_method_121_code
def yX9_few : MethodName := ⟨RX9, "few", "(II)J"⟩
abbrev cX9_compare : ByteArray := prog_11_method_122_code
def yX9_compare : MethodName := ⟨RX9, "compare", "(II)I"⟩
abbrev cX9_draw : ByteArray := prog_11_method_123_code
def yX9_draw : MethodName := ⟨RX9, "draw", "(I)I"⟩
abbrev cX9_drawnAct : ByteArray := prog_11_method_124_code
def yX9_drawnAct : MethodName := ⟨RX9, "drawnAct", "(IIII)V"⟩
abbrev cX9_harvests : ByteArray := prog_11_method_125_code
def yX9_harvests : MethodName := ⟨RX9, "harvests", "(II)I"⟩
abbrev cX9_drawn : ByteArray := prog_11_method_126_code
def yX9_drawn : MethodName := ⟨RX9, "drawn", "(II)I"⟩
abbrev cX9_count : ByteArray := prog_11_method_127_code
def yX9_count : MethodName := ⟨RX9, "count", "(I)I"⟩
abbrev cX9_status : ByteArray := prog_11_method_128_code
def yX9_status : MethodName := ⟨RX9, "status", "()I"⟩
def RL : String := "SoleraCellarLaw"
abbrev cL_law : ByteArray := code
def yL_law : MethodName := ⟨RL, "law", "([I)Z"⟩
abbrev vwCl : List vw_C := [(RX0, TX0, 6), (RX1, TX1, 4), (RX2, TX2, 10), (RX3, TX3, 10), (RX4, TX4, 8), (RX5, TX5, 2), (RX6, TX6, 4), (RX7, TX7, 7), (RX8, TX8, 15), (RX9, TX9, 55)]
