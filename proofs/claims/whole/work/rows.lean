section
-- ===== PART A: goes FIRST, ahead of the names: the tables' words, and 'selects' of the private methods out of them =====
/-- a private method of a class that the tables say can be made, by its rows of tables_1 -/
def lw_okq (q : MethodName × Nat) : Prop := (q.1.cls ≠ "java/lang/invoke/MethodHandle" ∧ q.1.cls ≠ "java/lang/invoke/VarHandle") ∧ Cond.instantiable q.1.cls q.2 ∈ tables_1 ∧ Cond.privateMethod q.1 ∈ tables_1 ∧ Cond.instanceMethod q.1 ∈ tables_1
theorem lw_p0 : lw_okq (⟨"HelperWeave$Page", "accepts", "(I)Z"⟩, 8) := ⟨⟨by decide +kernel, by decide +kernel⟩, List.mem_of_getElem? (i := 28) (by decide +kernel), List.mem_of_getElem? (i := 387) (by decide +kernel), List.mem_of_getElem? (i := 388) (by decide +kernel)⟩
theorem lw_p1 : lw_okq (⟨"HelperWeave$Page", "acceptsMessage", "(I)Z"⟩, 8) := ⟨⟨by decide +kernel, by decide +kernel⟩, List.mem_of_getElem? (i := 28) (by decide +kernel), List.mem_of_getElem? (i := 391) (by decide +kernel), List.mem_of_getElem? (i := 392) (by decide +kernel)⟩
theorem lw_p2 : lw_okq (⟨"HelperWeave$Page", "append", "(JJZ)V"⟩, 8) := ⟨⟨by decide +kernel, by decide +kernel⟩, List.mem_of_getElem? (i := 28) (by decide +kernel), List.mem_of_getElem? (i := 398) (by decide +kernel), List.mem_of_getElem? (i := 399) (by decide +kernel)⟩
theorem lw_p3 : lw_okq (⟨"HelperWeave$Page", "link", "(JJ)V"⟩, 8) := ⟨⟨by decide +kernel, by decide +kernel⟩, List.mem_of_getElem? (i := 28) (by decide +kernel), List.mem_of_getElem? (i := 402) (by decide +kernel), List.mem_of_getElem? (i := 403) (by decide +kernel)⟩
theorem lw_p4 : lw_okq (⟨"HelperWeave$Page", "opens", "(I)Z"⟩, 8) := ⟨⟨by decide +kernel, by decide +kernel⟩, List.mem_of_getElem? (i := 28) (by decide +kernel), List.mem_of_getElem? (i := 406) (by decide +kernel), List.mem_of_getElem? (i := 407) (by decide +kernel)⟩
theorem lw_p5 : lw_okq (⟨"HelperWeave$Page", "bars", "()Z"⟩, 8) := ⟨⟨by decide +kernel, by decide +kernel⟩, List.mem_of_getElem? (i := 28) (by decide +kernel), List.mem_of_getElem? (i := 410) (by decide +kernel), List.mem_of_getElem? (i := 411) (by decide +kernel)⟩
theorem lw_p6 : lw_okq (⟨"HelperWeave$Page", "closes", "(I)Z"⟩, 8) := ⟨⟨by decide +kernel, by decide +kernel⟩, List.mem_of_getElem? (i := 28) (by decide +kernel), List.mem_of_getElem? (i := 422) (by decide +kernel), List.mem_of_getElem? (i := 423) (by decide +kernel)⟩
theorem lw_p7 : lw_okq (⟨"HelperWeave$Talk", "addStep", "(III)V"⟩, 5) := ⟨⟨by decide +kernel, by decide +kernel⟩, List.mem_of_getElem? (i := 448) (by decide +kernel), List.mem_of_getElem? (i := 468) (by decide +kernel), List.mem_of_getElem? (i := 469) (by decide +kernel)⟩
theorem lw_p8 : lw_okq (⟨"HelperWeave", "talkNumbered", "(I)LHelperWeave$Talk;"⟩, 11) := ⟨⟨by decide +kernel, by decide +kernel⟩, List.mem_of_getElem? (i := 20) (by decide +kernel), List.mem_of_getElem? (i := 500) (by decide +kernel), List.mem_of_getElem? (i := 501) (by decide +kernel)⟩
theorem lw_p9 : lw_okq (⟨"HelperWeave$Walk", "reach", "(III)V"⟩, 11) := ⟨⟨by decide +kernel, by decide +kernel⟩, List.mem_of_getElem? (i := 111) (by decide +kernel), List.mem_of_getElem? (i := 545) (by decide +kernel), List.mem_of_getElem? (i := 546) (by decide +kernel)⟩
theorem lw_p10 : lw_okq (⟨"HelperWeave$Walk", "passFrom", "(I)I"⟩, 11) := ⟨⟨by decide +kernel, by decide +kernel⟩, List.mem_of_getElem? (i := 111) (by decide +kernel), List.mem_of_getElem? (i := 550) (by decide +kernel), List.mem_of_getElem? (i := 551) (by decide +kernel)⟩
theorem lw_p11 : lw_okq (⟨"HelperWeave$Walk", "actFrom", "(I)I"⟩, 11) := ⟨⟨by decide +kernel, by decide +kernel⟩, List.mem_of_getElem? (i := 111) (by decide +kernel), List.mem_of_getElem? (i := 560) (by decide +kernel), List.mem_of_getElem? (i := 561) (by decide +kernel)⟩
theorem lw_p12 : lw_okq (⟨"HelperWeave$Walk", "hasRoom", "(I)Z"⟩, 11) := ⟨⟨by decide +kernel, by decide +kernel⟩, List.mem_of_getElem? (i := 111) (by decide +kernel), List.mem_of_getElem? (i := 564) (by decide +kernel), List.mem_of_getElem? (i := 565) (by decide +kernel)⟩
theorem lw_p13 : lw_okq (⟨"HelperWeave$Walk", "keepWay", "(I)V"⟩, 11) := ⟨⟨by decide +kernel, by decide +kernel⟩, List.mem_of_getElem? (i := 111) (by decide +kernel), List.mem_of_getElem? (i := 574) (by decide +kernel), List.mem_of_getElem? (i := 575) (by decide +kernel)⟩
theorem lw_p14 : lw_okq (⟨"HelperWeave$Fitting", "dropsSome", "()Z"⟩, 3) := ⟨⟨by decide +kernel, by decide +kernel⟩, List.mem_of_getElem? (i := 152) (by decide +kernel), List.mem_of_getElem? (i := 599) (by decide +kernel), List.mem_of_getElem? (i := 600) (by decide +kernel)⟩
theorem lw_p15 : lw_okq (⟨"HelperWeave$Fitting", "fitsNow", "(II)Z"⟩, 3) := ⟨⟨by decide +kernel, by decide +kernel⟩, List.mem_of_getElem? (i := 152) (by decide +kernel), List.mem_of_getElem? (i := 608) (by decide +kernel), List.mem_of_getElem? (i := 609) (by decide +kernel)⟩
def lw_privs_1 : List (MethodName × Nat) := [(⟨"HelperWeave$Page", "accepts", "(I)Z"⟩, 8), (⟨"HelperWeave$Page", "acceptsMessage", "(I)Z"⟩, 8), (⟨"HelperWeave$Page", "append", "(JJZ)V"⟩, 8), (⟨"HelperWeave$Page", "link", "(JJ)V"⟩, 8), (⟨"HelperWeave$Page", "opens", "(I)Z"⟩, 8), (⟨"HelperWeave$Page", "bars", "()Z"⟩, 8), (⟨"HelperWeave$Page", "closes", "(I)Z"⟩, 8), (⟨"HelperWeave$Talk", "addStep", "(III)V"⟩, 5), (⟨"HelperWeave", "talkNumbered", "(I)LHelperWeave$Talk;"⟩, 11), (⟨"HelperWeave$Walk", "reach", "(III)V"⟩, 11), (⟨"HelperWeave$Walk", "passFrom", "(I)I"⟩, 11), (⟨"HelperWeave$Walk", "actFrom", "(I)I"⟩, 11), (⟨"HelperWeave$Walk", "hasRoom", "(I)Z"⟩, 11), (⟨"HelperWeave$Walk", "keepWay", "(I)V"⟩, 11), (⟨"HelperWeave$Fitting", "dropsSome", "()Z"⟩, 3), (⟨"HelperWeave$Fitting", "fitsNow", "(II)Z"⟩, 3)]
theorem lw_r1 : ∀ q ∈ lw_privs_1, lw_okq q := List.forall_mem_cons.mpr ⟨lw_p0, List.forall_mem_cons.mpr ⟨lw_p1, List.forall_mem_cons.mpr ⟨lw_p2, List.forall_mem_cons.mpr ⟨lw_p3, List.forall_mem_cons.mpr ⟨lw_p4, List.forall_mem_cons.mpr ⟨lw_p5, List.forall_mem_cons.mpr ⟨lw_p6, List.forall_mem_cons.mpr ⟨lw_p7, List.forall_mem_cons.mpr ⟨lw_p8, List.forall_mem_cons.mpr ⟨lw_p9, List.forall_mem_cons.mpr ⟨lw_p10, List.forall_mem_cons.mpr ⟨lw_p11, List.forall_mem_cons.mpr ⟨lw_p12, List.forall_mem_cons.mpr ⟨lw_p13, List.forall_mem_cons.mpr ⟨lw_p14, List.forall_mem_cons.mpr ⟨lw_p15, fun _ h => absurd h List.not_mem_nil⟩⟩⟩⟩⟩⟩⟩⟩⟩⟩⟩⟩⟩⟩⟩⟩
theorem lw_p16 : lw_okq (⟨"HelperWeave$Fitting", "fitsLater", "(II)Z"⟩, 3) := ⟨⟨by decide +kernel, by decide +kernel⟩, List.mem_of_getElem? (i := 152) (by decide +kernel), List.mem_of_getElem? (i := 613) (by decide +kernel), List.mem_of_getElem? (i := 614) (by decide +kernel)⟩
theorem lw_p17 : lw_okq (⟨"HelperWeave", "adaptingRefusal", "(III)I"⟩, 11) := ⟨⟨by decide +kernel, by decide +kernel⟩, List.mem_of_getElem? (i := 20) (by decide +kernel), List.mem_of_getElem? (i := 627) (by decide +kernel), List.mem_of_getElem? (i := 628) (by decide +kernel)⟩
theorem lw_p18 : lw_okq (⟨"HelperWeave", "adapt", "(II)V"⟩, 11) := ⟨⟨by decide +kernel, by decide +kernel⟩, List.mem_of_getElem? (i := 20) (by decide +kernel), List.mem_of_getElem? (i := 642) (by decide +kernel), List.mem_of_getElem? (i := 643) (by decide +kernel)⟩
theorem lw_p19 : lw_okq (⟨"HelperWeave$Adapting", "assign", "(I)V"⟩, 11) := ⟨⟨by decide +kernel, by decide +kernel⟩, List.mem_of_getElem? (i := 168) (by decide +kernel), List.mem_of_getElem? (i := 653) (by decide +kernel), List.mem_of_getElem? (i := 654) (by decide +kernel)⟩
theorem lw_p20 : lw_okq (⟨"HelperWeave$Adapting", "agree", "()Z"⟩, 11) := ⟨⟨by decide +kernel, by decide +kernel⟩, List.mem_of_getElem? (i := 168) (by decide +kernel), List.mem_of_getElem? (i := 657) (by decide +kernel), List.mem_of_getElem? (i := 658) (by decide +kernel)⟩
theorem lw_p21 : lw_okq (⟨"HelperWeave$Adapting", "reach", "(II)V"⟩, 11) := ⟨⟨by decide +kernel, by decide +kernel⟩, List.mem_of_getElem? (i := 168) (by decide +kernel), List.mem_of_getElem? (i := 661) (by decide +kernel), List.mem_of_getElem? (i := 662) (by decide +kernel)⟩
theorem lw_p22 : lw_okq (⟨"HelperWeave$Adapting", "agreeAt", "(II)Z"⟩, 11) := ⟨⟨by decide +kernel, by decide +kernel⟩, List.mem_of_getElem? (i := 168) (by decide +kernel), List.mem_of_getElem? (i := 665) (by decide +kernel), List.mem_of_getElem? (i := 666) (by decide +kernel)⟩
theorem lw_p23 : lw_okq (⟨"HelperWeave$Adapting", "passFrom", "(II)V"⟩, 11) := ⟨⟨by decide +kernel, by decide +kernel⟩, List.mem_of_getElem? (i := 168) (by decide +kernel), List.mem_of_getElem? (i := 671) (by decide +kernel), List.mem_of_getElem? (i := 672) (by decide +kernel)⟩
theorem lw_p24 : lw_okq (⟨"HelperWeave$Adapting", "keepFound", "()V"⟩, 11) := ⟨⟨by decide +kernel, by decide +kernel⟩, List.mem_of_getElem? (i := 168) (by decide +kernel), List.mem_of_getElem? (i := 676) (by decide +kernel), List.mem_of_getElem? (i := 677) (by decide +kernel)⟩
theorem lw_p25 : lw_okq (⟨"HelperWeave$Going", "greatestTaint", "(I)I"⟩, 3) := ⟨⟨by decide +kernel, by decide +kernel⟩, List.mem_of_getElem? (i := 218) (by decide +kernel), List.mem_of_getElem? (i := 777) (by decide +kernel), List.mem_of_getElem? (i := 778) (by decide +kernel)⟩
theorem lw_p26 : lw_okq (⟨"HelperWeave$Row", "goOn", "(II)V"⟩, 13) := ⟨⟨by decide +kernel, by decide +kernel⟩, List.mem_of_getElem? (i := 209) (by decide +kernel), List.mem_of_getElem? (i := 783) (by decide +kernel), List.mem_of_getElem? (i := 784) (by decide +kernel)⟩
theorem lw_p27 : lw_okq (⟨"HelperWeave", "goingRefusal", "(I)I"⟩, 11) := ⟨⟨by decide +kernel, by decide +kernel⟩, List.mem_of_getElem? (i := 20) (by decide +kernel), List.mem_of_getElem? (i := 799) (by decide +kernel), List.mem_of_getElem? (i := 800) (by decide +kernel)⟩
theorem lw_p28 : lw_okq (⟨"HelperWeave$Row", "tryFrom", "(II)V"⟩, 13) := ⟨⟨by decide +kernel, by decide +kernel⟩, List.mem_of_getElem? (i := 209) (by decide +kernel), List.mem_of_getElem? (i := 828) (by decide +kernel), List.mem_of_getElem? (i := 829) (by decide +kernel)⟩
theorem lw_p29 : lw_okq (⟨"HelperWeave$Row", "isUndone", "(II)Z"⟩, 13) := ⟨⟨by decide +kernel, by decide +kernel⟩, List.mem_of_getElem? (i := 209) (by decide +kernel), List.mem_of_getElem? (i := 874) (by decide +kernel), List.mem_of_getElem? (i := 875) (by decide +kernel)⟩
theorem lw_p30 : lw_okq (⟨"HelperWeave$Log", "addEvent", "()LHelperWeave$Worlds;"⟩, 3) := ⟨⟨by decide +kernel, by decide +kernel⟩, List.mem_of_getElem? (i := 282) (by decide +kernel), List.mem_of_getElem? (i := 892) (by decide +kernel), List.mem_of_getElem? (i := 893) (by decide +kernel)⟩
theorem lw_p31 : lw_okq (⟨"HelperWeave$Worlds", "move", "(IZ)V"⟩, 1) := ⟨⟨by decide +kernel, by decide +kernel⟩, List.mem_of_getElem? (i := 289) (by decide +kernel), List.mem_of_getElem? (i := 916) (by decide +kernel), List.mem_of_getElem? (i := 917) (by decide +kernel)⟩
def lw_privs_2 : List (MethodName × Nat) := [(⟨"HelperWeave$Fitting", "fitsLater", "(II)Z"⟩, 3), (⟨"HelperWeave", "adaptingRefusal", "(III)I"⟩, 11), (⟨"HelperWeave", "adapt", "(II)V"⟩, 11), (⟨"HelperWeave$Adapting", "assign", "(I)V"⟩, 11), (⟨"HelperWeave$Adapting", "agree", "()Z"⟩, 11), (⟨"HelperWeave$Adapting", "reach", "(II)V"⟩, 11), (⟨"HelperWeave$Adapting", "agreeAt", "(II)Z"⟩, 11), (⟨"HelperWeave$Adapting", "passFrom", "(II)V"⟩, 11), (⟨"HelperWeave$Adapting", "keepFound", "()V"⟩, 11), (⟨"HelperWeave$Going", "greatestTaint", "(I)I"⟩, 3), (⟨"HelperWeave$Row", "goOn", "(II)V"⟩, 13), (⟨"HelperWeave", "goingRefusal", "(I)I"⟩, 11), (⟨"HelperWeave$Row", "tryFrom", "(II)V"⟩, 13), (⟨"HelperWeave$Row", "isUndone", "(II)Z"⟩, 13), (⟨"HelperWeave$Log", "addEvent", "()LHelperWeave$Worlds;"⟩, 3), (⟨"HelperWeave$Worlds", "move", "(IZ)V"⟩, 1)]
theorem lw_r2 : ∀ q ∈ lw_privs_2, lw_okq q := List.forall_mem_cons.mpr ⟨lw_p16, List.forall_mem_cons.mpr ⟨lw_p17, List.forall_mem_cons.mpr ⟨lw_p18, List.forall_mem_cons.mpr ⟨lw_p19, List.forall_mem_cons.mpr ⟨lw_p20, List.forall_mem_cons.mpr ⟨lw_p21, List.forall_mem_cons.mpr ⟨lw_p22, List.forall_mem_cons.mpr ⟨lw_p23, List.forall_mem_cons.mpr ⟨lw_p24, List.forall_mem_cons.mpr ⟨lw_p25, List.forall_mem_cons.mpr ⟨lw_p26, List.forall_mem_cons.mpr ⟨lw_p27, List.forall_mem_cons.mpr ⟨lw_p28, List.forall_mem_cons.mpr ⟨lw_p29, List.forall_mem_cons.mpr ⟨lw_p30, List.forall_mem_cons.mpr ⟨lw_p31, fun _ h => absurd h List.not_mem_nil⟩⟩⟩⟩⟩⟩⟩⟩⟩⟩⟩⟩⟩⟩⟩⟩
theorem lw_p32 : lw_okq (⟨"HelperWeaveModel", "readPage", "()V"⟩, 58) := ⟨⟨by decide +kernel, by decide +kernel⟩, List.mem_of_getElem? (i := 1008) (by decide +kernel), List.mem_of_getElem? (i := 1204) (by decide +kernel), List.mem_of_getElem? (i := 1205) (by decide +kernel)⟩
theorem lw_p33 : lw_okq (⟨"HelperWeaveModel", "open", "(I)V"⟩, 58) := ⟨⟨by decide +kernel, by decide +kernel⟩, List.mem_of_getElem? (i := 1008) (by decide +kernel), List.mem_of_getElem? (i := 1208) (by decide +kernel), List.mem_of_getElem? (i := 1209) (by decide +kernel)⟩
theorem lw_p34 : lw_okq (⟨"HelperWeaveModel", "fresh", "()V"⟩, 58) := ⟨⟨by decide +kernel, by decide +kernel⟩, List.mem_of_getElem? (i := 1008) (by decide +kernel), List.mem_of_getElem? (i := 1212) (by decide +kernel), List.mem_of_getElem? (i := 1213) (by decide +kernel)⟩
theorem lw_p35 : lw_okq (⟨"HelperWeaveModel", "append", "(ZJJ)V"⟩, 58) := ⟨⟨by decide +kernel, by decide +kernel⟩, List.mem_of_getElem? (i := 1008) (by decide +kernel), List.mem_of_getElem? (i := 1219) (by decide +kernel), List.mem_of_getElem? (i := 1220) (by decide +kernel)⟩
theorem lw_p36 : lw_okq (⟨"HelperWeaveModel", "link", "(JJ)V"⟩, 58) := ⟨⟨by decide +kernel, by decide +kernel⟩, List.mem_of_getElem? (i := 1008) (by decide +kernel), List.mem_of_getElem? (i := 1223) (by decide +kernel), List.mem_of_getElem? (i := 1224) (by decide +kernel)⟩
theorem lw_p37 : lw_okq (⟨"HelperWeaveModel", "gather", "()V"⟩, 58) := ⟨⟨by decide +kernel, by decide +kernel⟩, List.mem_of_getElem? (i := 1008) (by decide +kernel), List.mem_of_getElem? (i := 1227) (by decide +kernel), List.mem_of_getElem? (i := 1228) (by decide +kernel)⟩
theorem lw_p38 : lw_okq (⟨"HelperWeaveModel", "close", "(I)V"⟩, 58) := ⟨⟨by decide +kernel, by decide +kernel⟩, List.mem_of_getElem? (i := 1008) (by decide +kernel), List.mem_of_getElem? (i := 1231) (by decide +kernel), List.mem_of_getElem? (i := 1232) (by decide +kernel)⟩
theorem lw_p39 : lw_okq (⟨"HelperWeaveModel", "isTwofold", "()Z"⟩, 58) := ⟨⟨by decide +kernel, by decide +kernel⟩, List.mem_of_getElem? (i := 1008) (by decide +kernel), List.mem_of_getElem? (i := 1239) (by decide +kernel), List.mem_of_getElem? (i := 1240) (by decide +kernel)⟩
theorem lw_p40 : lw_okq (⟨"HelperWeaveModel", "nextSet", "(I)J"⟩, 58) := ⟨⟨by decide +kernel, by decide +kernel⟩, List.mem_of_getElem? (i := 1008) (by decide +kernel), List.mem_of_getElem? (i := 1243) (by decide +kernel), List.mem_of_getElem? (i := 1244) (by decide +kernel)⟩
theorem lw_p41 : lw_okq (⟨"HelperWeaveModel", "isTalk", "(I)Z"⟩, 58) := ⟨⟨by decide +kernel, by decide +kernel⟩, List.mem_of_getElem? (i := 1008) (by decide +kernel), List.mem_of_getElem? (i := 1254) (by decide +kernel), List.mem_of_getElem? (i := 1255) (by decide +kernel)⟩
theorem lw_p42 : lw_okq (⟨"HelperWeaveModel", "isState", "(II)Z"⟩, 58) := ⟨⟨by decide +kernel, by decide +kernel⟩, List.mem_of_getElem? (i := 1008) (by decide +kernel), List.mem_of_getElem? (i := 1262) (by decide +kernel), List.mem_of_getElem? (i := 1263) (by decide +kernel)⟩
theorem lw_p43 : lw_okq (⟨"HelperWeaveModel", "usesOf", "(II)I"⟩, 58) := ⟨⟨by decide +kernel, by decide +kernel⟩, List.mem_of_getElem? (i := 1008) (by decide +kernel), List.mem_of_getElem? (i := 1274) (by decide +kernel), List.mem_of_getElem? (i := 1275) (by decide +kernel)⟩
theorem lw_p44 : lw_okq (⟨"HelperWeaveModel", "nowOf", "(III)I"⟩, 58) := ⟨⟨by decide +kernel, by decide +kernel⟩, List.mem_of_getElem? (i := 1008) (by decide +kernel), List.mem_of_getElem? (i := 1278) (by decide +kernel), List.mem_of_getElem? (i := 1279) (by decide +kernel)⟩
theorem lw_p45 : lw_okq (⟨"HelperWeaveModel", "same", "()V"⟩, 58) := ⟨⟨by decide +kernel, by decide +kernel⟩, List.mem_of_getElem? (i := 1008) (by decide +kernel), List.mem_of_getElem? (i := 1286) (by decide +kernel), List.mem_of_getElem? (i := 1287) (by decide +kernel)⟩
theorem lw_p46 : lw_okq (⟨"HelperWeaveModel", "walk", "(IIZ)I"⟩, 58) := ⟨⟨by decide +kernel, by decide +kernel⟩, List.mem_of_getElem? (i := 1008) (by decide +kernel), List.mem_of_getElem? (i := 1290) (by decide +kernel), List.mem_of_getElem? (i := 1291) (by decide +kernel)⟩
theorem lw_p47 : lw_okq (⟨"HelperWeaveModel", "restart", "()V"⟩, 58) := ⟨⟨by decide +kernel, by decide +kernel⟩, List.mem_of_getElem? (i := 1008) (by decide +kernel), List.mem_of_getElem? (i := 1294) (by decide +kernel), List.mem_of_getElem? (i := 1295) (by decide +kernel)⟩
def lw_privs_3 : List (MethodName × Nat) := [(⟨"HelperWeaveModel", "readPage", "()V"⟩, 58), (⟨"HelperWeaveModel", "open", "(I)V"⟩, 58), (⟨"HelperWeaveModel", "fresh", "()V"⟩, 58), (⟨"HelperWeaveModel", "append", "(ZJJ)V"⟩, 58), (⟨"HelperWeaveModel", "link", "(JJ)V"⟩, 58), (⟨"HelperWeaveModel", "gather", "()V"⟩, 58), (⟨"HelperWeaveModel", "close", "(I)V"⟩, 58), (⟨"HelperWeaveModel", "isTwofold", "()Z"⟩, 58), (⟨"HelperWeaveModel", "nextSet", "(I)J"⟩, 58), (⟨"HelperWeaveModel", "isTalk", "(I)Z"⟩, 58), (⟨"HelperWeaveModel", "isState", "(II)Z"⟩, 58), (⟨"HelperWeaveModel", "usesOf", "(II)I"⟩, 58), (⟨"HelperWeaveModel", "nowOf", "(III)I"⟩, 58), (⟨"HelperWeaveModel", "same", "()V"⟩, 58), (⟨"HelperWeaveModel", "walk", "(IIZ)I"⟩, 58), (⟨"HelperWeaveModel", "restart", "()V"⟩, 58)]
theorem lw_r3 : ∀ q ∈ lw_privs_3, lw_okq q := List.forall_mem_cons.mpr ⟨lw_p32, List.forall_mem_cons.mpr ⟨lw_p33, List.forall_mem_cons.mpr ⟨lw_p34, List.forall_mem_cons.mpr ⟨lw_p35, List.forall_mem_cons.mpr ⟨lw_p36, List.forall_mem_cons.mpr ⟨lw_p37, List.forall_mem_cons.mpr ⟨lw_p38, List.forall_mem_cons.mpr ⟨lw_p39, List.forall_mem_cons.mpr ⟨lw_p40, List.forall_mem_cons.mpr ⟨lw_p41, List.forall_mem_cons.mpr ⟨lw_p42, List.forall_mem_cons.mpr ⟨lw_p43, List.forall_mem_cons.mpr ⟨lw_p44, List.forall_mem_cons.mpr ⟨lw_p45, List.forall_mem_cons.mpr ⟨lw_p46, List.forall_mem_cons.mpr ⟨lw_p47, fun _ h => absurd h List.not_mem_nil⟩⟩⟩⟩⟩⟩⟩⟩⟩⟩⟩⟩⟩⟩⟩⟩
theorem lw_p48 : lw_okq (⟨"HelperWeaveModel", "isNew", "(III)Z"⟩, 58) := ⟨⟨by decide +kernel, by decide +kernel⟩, List.mem_of_getElem? (i := 1008) (by decide +kernel), List.mem_of_getElem? (i := 1298) (by decide +kernel), List.mem_of_getElem? (i := 1299) (by decide +kernel)⟩
theorem lw_p49 : lw_okq (⟨"HelperWeaveModel", "passFrom", "(III)V"⟩, 58) := ⟨⟨by decide +kernel, by decide +kernel⟩, List.mem_of_getElem? (i := 1008) (by decide +kernel), List.mem_of_getElem? (i := 1303) (by decide +kernel), List.mem_of_getElem? (i := 1304) (by decide +kernel)⟩
theorem lw_p50 : lw_okq (⟨"HelperWeaveModel", "saysOf", "(III)I"⟩, 58) := ⟨⟨by decide +kernel, by decide +kernel⟩, List.mem_of_getElem? (i := 1008) (by decide +kernel), List.mem_of_getElem? (i := 1307) (by decide +kernel), List.mem_of_getElem? (i := 1308) (by decide +kernel)⟩
theorem lw_p51 : lw_okq (⟨"HelperWeaveModel", "hearsOf", "(III)I"⟩, 58) := ⟨⟨by decide +kernel, by decide +kernel⟩, List.mem_of_getElem? (i := 1008) (by decide +kernel), List.mem_of_getElem? (i := 1311) (by decide +kernel), List.mem_of_getElem? (i := 1312) (by decide +kernel)⟩
theorem lw_p52 : lw_okq (⟨"HelperWeaveModel", "walkQueues", "(III)I"⟩, 58) := ⟨⟨by decide +kernel, by decide +kernel⟩, List.mem_of_getElem? (i := 1008) (by decide +kernel), List.mem_of_getElem? (i := 1315) (by decide +kernel), List.mem_of_getElem? (i := 1316) (by decide +kernel)⟩
theorem lw_p53 : lw_okq (⟨"HelperWeaveModel", "actFrom", "(IIII)V"⟩, 58) := ⟨⟨by decide +kernel, by decide +kernel⟩, List.mem_of_getElem? (i := 1008) (by decide +kernel), List.mem_of_getElem? (i := 1319) (by decide +kernel), List.mem_of_getElem? (i := 1320) (by decide +kernel)⟩
theorem lw_p54 : lw_okq (⟨"HelperWeaveModel", "come", "(III)V"⟩, 58) := ⟨⟨by decide +kernel, by decide +kernel⟩, List.mem_of_getElem? (i := 1008) (by decide +kernel), List.mem_of_getElem? (i := 1333) (by decide +kernel), List.mem_of_getElem? (i := 1334) (by decide +kernel)⟩
theorem lw_p55 : lw_okq (⟨"HelperWeaveModel", "traceTo", "(I)V"⟩, 58) := ⟨⟨by decide +kernel, by decide +kernel⟩, List.mem_of_getElem? (i := 1008) (by decide +kernel), List.mem_of_getElem? (i := 1343) (by decide +kernel), List.mem_of_getElem? (i := 1344) (by decide +kernel)⟩
theorem lw_p56 : lw_okq (⟨"HelperWeaveModel", "fitAll", "(II)V"⟩, 58) := ⟨⟨by decide +kernel, by decide +kernel⟩, List.mem_of_getElem? (i := 1008) (by decide +kernel), List.mem_of_getElem? (i := 1359) (by decide +kernel), List.mem_of_getElem? (i := 1360) (by decide +kernel)⟩
theorem lw_p57 : lw_okq (⟨"HelperWeaveModel", "mayFit", "(IIII)Z"⟩, 58) := ⟨⟨by decide +kernel, by decide +kernel⟩, List.mem_of_getElem? (i := 1008) (by decide +kernel), List.mem_of_getElem? (i := 1363) (by decide +kernel), List.mem_of_getElem? (i := 1364) (by decide +kernel)⟩
theorem lw_p58 : lw_okq (⟨"HelperWeaveModel", "barred", "(II)I"⟩, 58) := ⟨⟨by decide +kernel, by decide +kernel⟩, List.mem_of_getElem? (i := 1008) (by decide +kernel), List.mem_of_getElem? (i := 1375) (by decide +kernel), List.mem_of_getElem? (i := 1376) (by decide +kernel)⟩
theorem lw_p59 : lw_okq (⟨"HelperWeaveModel", "messagesOf", "(I)I"⟩, 58) := ⟨⟨by decide +kernel, by decide +kernel⟩, List.mem_of_getElem? (i := 1008) (by decide +kernel), List.mem_of_getElem? (i := 1379) (by decide +kernel), List.mem_of_getElem? (i := 1380) (by decide +kernel)⟩
theorem lw_p60 : lw_okq (⟨"HelperWeaveModel", "seekAdapters", "(IIII)I"⟩, 58) := ⟨⟨by decide +kernel, by decide +kernel⟩, List.mem_of_getElem? (i := 1008) (by decide +kernel), List.mem_of_getElem? (i := 1386) (by decide +kernel), List.mem_of_getElem? (i := 1387) (by decide +kernel)⟩
theorem lw_p61 : lw_okq (⟨"HelperWeaveModel", "lay", "(III)Z"⟩, 58) := ⟨⟨by decide +kernel, by decide +kernel⟩, List.mem_of_getElem? (i := 1008) (by decide +kernel), List.mem_of_getElem? (i := 1390) (by decide +kernel), List.mem_of_getElem? (i := 1391) (by decide +kernel)⟩
theorem lw_p62 : lw_okq (⟨"HelperWeaveModel", "isHelper", "(I)Z"⟩, 58) := ⟨⟨by decide +kernel, by decide +kernel⟩, List.mem_of_getElem? (i := 1008) (by decide +kernel), List.mem_of_getElem? (i := 1409) (by decide +kernel), List.mem_of_getElem? (i := 1410) (by decide +kernel)⟩
theorem lw_p63 : lw_okq (⟨"HelperWeaveModel", "aboutOf", "(II)I"⟩, 58) := ⟨⟨by decide +kernel, by decide +kernel⟩, List.mem_of_getElem? (i := 1008) (by decide +kernel), List.mem_of_getElem? (i := 1421) (by decide +kernel), List.mem_of_getElem? (i := 1422) (by decide +kernel)⟩
def lw_privs_4 : List (MethodName × Nat) := [(⟨"HelperWeaveModel", "isNew", "(III)Z"⟩, 58), (⟨"HelperWeaveModel", "passFrom", "(III)V"⟩, 58), (⟨"HelperWeaveModel", "saysOf", "(III)I"⟩, 58), (⟨"HelperWeaveModel", "hearsOf", "(III)I"⟩, 58), (⟨"HelperWeaveModel", "walkQueues", "(III)I"⟩, 58), (⟨"HelperWeaveModel", "actFrom", "(IIII)V"⟩, 58), (⟨"HelperWeaveModel", "come", "(III)V"⟩, 58), (⟨"HelperWeaveModel", "traceTo", "(I)V"⟩, 58), (⟨"HelperWeaveModel", "fitAll", "(II)V"⟩, 58), (⟨"HelperWeaveModel", "mayFit", "(IIII)Z"⟩, 58), (⟨"HelperWeaveModel", "barred", "(II)I"⟩, 58), (⟨"HelperWeaveModel", "messagesOf", "(I)I"⟩, 58), (⟨"HelperWeaveModel", "seekAdapters", "(IIII)I"⟩, 58), (⟨"HelperWeaveModel", "lay", "(III)Z"⟩, 58), (⟨"HelperWeaveModel", "isHelper", "(I)Z"⟩, 58), (⟨"HelperWeaveModel", "aboutOf", "(II)I"⟩, 58)]
theorem lw_r4 : ∀ q ∈ lw_privs_4, lw_okq q := List.forall_mem_cons.mpr ⟨lw_p48, List.forall_mem_cons.mpr ⟨lw_p49, List.forall_mem_cons.mpr ⟨lw_p50, List.forall_mem_cons.mpr ⟨lw_p51, List.forall_mem_cons.mpr ⟨lw_p52, List.forall_mem_cons.mpr ⟨lw_p53, List.forall_mem_cons.mpr ⟨lw_p54, List.forall_mem_cons.mpr ⟨lw_p55, List.forall_mem_cons.mpr ⟨lw_p56, List.forall_mem_cons.mpr ⟨lw_p57, List.forall_mem_cons.mpr ⟨lw_p58, List.forall_mem_cons.mpr ⟨lw_p59, List.forall_mem_cons.mpr ⟨lw_p60, List.forall_mem_cons.mpr ⟨lw_p61, List.forall_mem_cons.mpr ⟨lw_p62, List.forall_mem_cons.mpr ⟨lw_p63, fun _ h => absurd h List.not_mem_nil⟩⟩⟩⟩⟩⟩⟩⟩⟩⟩⟩⟩⟩⟩⟩⟩
theorem lw_p64 : lw_okq (⟨"HelperWeaveModel", "walkRow", "([III)I"⟩, 58) := ⟨⟨by decide +kernel, by decide +kernel⟩, List.mem_of_getElem? (i := 1008) (by decide +kernel), List.mem_of_getElem? (i := 1441) (by decide +kernel), List.mem_of_getElem? (i := 1442) (by decide +kernel)⟩
theorem lw_p65 : lw_okq (⟨"HelperWeaveModel", "start", "(I)V"⟩, 58) := ⟨⟨by decide +kernel, by decide +kernel⟩, List.mem_of_getElem? (i := 1008) (by decide +kernel), List.mem_of_getElem? (i := 1445) (by decide +kernel), List.mem_of_getElem? (i := 1446) (by decide +kernel)⟩
theorem lw_p66 : lw_okq (⟨"HelperWeaveModel", "mayGo", "(I)Z"⟩, 58) := ⟨⟨by decide +kernel, by decide +kernel⟩, List.mem_of_getElem? (i := 1008) (by decide +kernel), List.mem_of_getElem? (i := 1449) (by decide +kernel), List.mem_of_getElem? (i := 1450) (by decide +kernel)⟩
theorem lw_p67 : lw_okq (⟨"HelperWeaveModel", "worst", "(I)I"⟩, 58) := ⟨⟨by decide +kernel, by decide +kernel⟩, List.mem_of_getElem? (i := 1008) (by decide +kernel), List.mem_of_getElem? (i := 1453) (by decide +kernel), List.mem_of_getElem? (i := 1454) (by decide +kernel)⟩
theorem lw_p68 : lw_okq (⟨"HelperWeaveModel", "goOne", "(I)V"⟩, 58) := ⟨⟨by decide +kernel, by decide +kernel⟩, List.mem_of_getElem? (i := 1008) (by decide +kernel), List.mem_of_getElem? (i := 1457) (by decide +kernel), List.mem_of_getElem? (i := 1458) (by decide +kernel)⟩
theorem lw_p69 : lw_okq (⟨"HelperWeaveModel", "pricesOf", "([II)I"⟩, 58) := ⟨⟨by decide +kernel, by decide +kernel⟩, List.mem_of_getElem? (i := 1008) (by decide +kernel), List.mem_of_getElem? (i := 1473) (by decide +kernel), List.mem_of_getElem? (i := 1474) (by decide +kernel)⟩
theorem lw_p70 : lw_okq (⟨"HelperWeaveModel", "holdsBack", "(II)Z"⟩, 58) := ⟨⟨by decide +kernel, by decide +kernel⟩, List.mem_of_getElem? (i := 1008) (by decide +kernel), List.mem_of_getElem? (i := 1506) (by decide +kernel), List.mem_of_getElem? (i := 1507) (by decide +kernel)⟩
theorem lw_p71 : lw_okq (⟨"HelperWeaveModel", "add", "(II)I"⟩, 58) := ⟨⟨by decide +kernel, by decide +kernel⟩, List.mem_of_getElem? (i := 1008) (by decide +kernel), List.mem_of_getElem? (i := 1518) (by decide +kernel), List.mem_of_getElem? (i := 1519) (by decide +kernel)⟩
theorem lw_p72 : lw_okq (⟨"HelperWeaveModel", "passAll", "(I)I"⟩, 58) := ⟨⟨by decide +kernel, by decide +kernel⟩, List.mem_of_getElem? (i := 1008) (by decide +kernel), List.mem_of_getElem? (i := 1534) (by decide +kernel), List.mem_of_getElem? (i := 1535) (by decide +kernel)⟩
theorem lw_p73 : lw_okq (⟨"HelperWeaveModel", "pass", "(I)V"⟩, 58) := ⟨⟨by decide +kernel, by decide +kernel⟩, List.mem_of_getElem? (i := 1008) (by decide +kernel), List.mem_of_getElem? (i := 1538) (by decide +kernel), List.mem_of_getElem? (i := 1539) (by decide +kernel)⟩
theorem lw_p74 : lw_okq (⟨"HelperWeaveModel", "did", "(II)I"⟩, 58) := ⟨⟨by decide +kernel, by decide +kernel⟩, List.mem_of_getElem? (i := 1008) (by decide +kernel), List.mem_of_getElem? (i := 1542) (by decide +kernel), List.mem_of_getElem? (i := 1543) (by decide +kernel)⟩
theorem lw_p75 : lw_okq (⟨"HelperWeaveModel", "brokenAt", "()I"⟩, 58) := ⟨⟨by decide +kernel, by decide +kernel⟩, List.mem_of_getElem? (i := 1008) (by decide +kernel), List.mem_of_getElem? (i := 1558) (by decide +kernel), List.mem_of_getElem? (i := 1559) (by decide +kernel)⟩
theorem lw_p76 : lw_okq (⟨"HelperWeaveModel", "mix", "(J)V"⟩, 58) := ⟨⟨by decide +kernel, by decide +kernel⟩, List.mem_of_getElem? (i := 1008) (by decide +kernel), List.mem_of_getElem? (i := 1575) (by decide +kernel), List.mem_of_getElem? (i := 1576) (by decide +kernel)⟩
theorem lw_p77 : lw_okq (⟨"HelperWeaveModel", "mixTalk", "(I)V"⟩, 58) := ⟨⟨by decide +kernel, by decide +kernel⟩, List.mem_of_getElem? (i := 1008) (by decide +kernel), List.mem_of_getElem? (i := 1580) (by decide +kernel), List.mem_of_getElem? (i := 1581) (by decide +kernel)⟩
def lw_privs_5 : List (MethodName × Nat) := [(⟨"HelperWeaveModel", "walkRow", "([III)I"⟩, 58), (⟨"HelperWeaveModel", "start", "(I)V"⟩, 58), (⟨"HelperWeaveModel", "mayGo", "(I)Z"⟩, 58), (⟨"HelperWeaveModel", "worst", "(I)I"⟩, 58), (⟨"HelperWeaveModel", "goOne", "(I)V"⟩, 58), (⟨"HelperWeaveModel", "pricesOf", "([II)I"⟩, 58), (⟨"HelperWeaveModel", "holdsBack", "(II)Z"⟩, 58), (⟨"HelperWeaveModel", "add", "(II)I"⟩, 58), (⟨"HelperWeaveModel", "passAll", "(I)I"⟩, 58), (⟨"HelperWeaveModel", "pass", "(I)V"⟩, 58), (⟨"HelperWeaveModel", "did", "(II)I"⟩, 58), (⟨"HelperWeaveModel", "brokenAt", "()I"⟩, 58), (⟨"HelperWeaveModel", "mix", "(J)V"⟩, 58), (⟨"HelperWeaveModel", "mixTalk", "(I)V"⟩, 58)]
theorem lw_r5 : ∀ q ∈ lw_privs_5, lw_okq q := List.forall_mem_cons.mpr ⟨lw_p64, List.forall_mem_cons.mpr ⟨lw_p65, List.forall_mem_cons.mpr ⟨lw_p66, List.forall_mem_cons.mpr ⟨lw_p67, List.forall_mem_cons.mpr ⟨lw_p68, List.forall_mem_cons.mpr ⟨lw_p69, List.forall_mem_cons.mpr ⟨lw_p70, List.forall_mem_cons.mpr ⟨lw_p71, List.forall_mem_cons.mpr ⟨lw_p72, List.forall_mem_cons.mpr ⟨lw_p73, List.forall_mem_cons.mpr ⟨lw_p74, List.forall_mem_cons.mpr ⟨lw_p75, List.forall_mem_cons.mpr ⟨lw_p76, List.forall_mem_cons.mpr ⟨lw_p77, fun _ h => absurd h List.not_mem_nil⟩⟩⟩⟩⟩⟩⟩⟩⟩⟩⟩⟩⟩⟩
def lw_privs : List (MethodName × Nat) := lw_privs_1 ++ (lw_privs_2 ++ (lw_privs_3 ++ (lw_privs_4 ++ (lw_privs_5))))
def lw_tbl : List Cond := k2_sels lw_privs ++ tables_1
theorem lw_privs_ok : ∀ q ∈ lw_privs, lw_okq q := by
  show ∀ q ∈ lw_privs_1 ++ (lw_privs_2 ++ (lw_privs_3 ++ (lw_privs_4 ++ (lw_privs_5)))), lw_okq q
  exact List.forall_mem_append.mpr ⟨lw_r1, List.forall_mem_append.mpr ⟨lw_r2, List.forall_mem_append.mpr ⟨lw_r3, List.forall_mem_append.mpr ⟨lw_r4, lw_r5⟩⟩⟩⟩
end
section
/-! the classes of the program: their fields as the tables lay them, and the words that hold wherever the machine has warmed -/
def zT0 : u_T := fun k => match k with
  | 0 => ("HelperWeave", "page", "LHelperWeave$Page;", true)
  | 1 => ("HelperWeave", "talks", "[LHelperWeave$Talk;", true)
  | 2 => ("HelperWeave", "talkCount", "I", false)
  | 3 => ("HelperWeave", "walk", "LHelperWeave$Walk;", true)
  | 4 => ("HelperWeave", "fitting", "LHelperWeave$Fitting;", true)
  | 5 => ("HelperWeave", "adapting", "LHelperWeave$Adapting;", true)
  | 6 => ("HelperWeave", "queueJoins", "I", false)
  | 7 => ("HelperWeave", "adaptings", "I", false)
  | 8 => ("HelperWeave", "row", "LHelperWeave$Row;", true)
  | 9 => ("HelperWeave", "plans", "I", false)
  | _ => ("HelperWeave", "log", "LHelperWeave$Log;", true)
def zF0 : Nat → FieldType := fun k => match k with
  | 0 => (.object "HelperWeave$Page")
  | 1 => (.array (.object "HelperWeave$Talk"))
  | 2 => .int
  | 3 => (.object "HelperWeave$Walk")
  | 4 => (.object "HelperWeave$Fitting")
  | 5 => (.object "HelperWeave$Adapting")
  | 6 => .int
  | 7 => .int
  | 8 => (.object "HelperWeave$Row")
  | 9 => .int
  | _ => (.object "HelperWeave$Log")
def zY0 : Nat → Nat := fun k => match k with
  | 0 => 3
  | 1 => 3
  | 2 => 0
  | 3 => 3
  | 4 => 3
  | 5 => 3
  | 6 => 0
  | 7 => 0
  | 8 => 3
  | 9 => 0
  | _ => 3
def zT1 : u_T := fun k => match k with
  | 0 => ("HelperWeave$Adapting", "found", "[I", true)
  | 1 => ("HelperWeave$Adapting", "count", "I", false)
  | 2 => ("HelperWeave$Adapting", "a", "LHelperWeave$Talk;", false)
  | 3 => ("HelperWeave$Adapting", "b", "LHelperWeave$Talk;", false)
  | 4 => ("HelperWeave$Adapting", "messages", "[I", true)
  | 5 => ("HelperWeave$Adapting", "width", "I", false)
  | 6 => ("HelperWeave$Adapting", "images", "[I", true)
  | 7 => ("HelperWeave$Adapting", "origins", "[I", true)
  | 8 => ("HelperWeave$Adapting", "reached", "[I", true)
  | 9 => ("HelperWeave$Adapting", "waiting", "[I", true)
  | _ => ("HelperWeave$Adapting", "waitingCount", "I", false)
def zF1 : Nat → FieldType := fun k => match k with
  | 0 => (.array .int)
  | 1 => .int
  | 2 => (.object "HelperWeave$Talk")
  | 3 => (.object "HelperWeave$Talk")
  | 4 => (.array .int)
  | 5 => .int
  | 6 => (.array .int)
  | 7 => (.array .int)
  | 8 => (.array .int)
  | 9 => (.array .int)
  | _ => .int
def zY1 : Nat → Nat := fun k => match k with
  | 0 => 3
  | 1 => 0
  | 2 => 3
  | 3 => 3
  | 4 => 3
  | 5 => 0
  | 6 => 3
  | 7 => 3
  | 8 => 3
  | 9 => 3
  | _ => 0
def zT2 : u_T := fun k => match k with
  | 0 => ("HelperWeave$Fitting", "fits", "[I", true)
  | 1 => ("HelperWeave$Fitting", "x", "LHelperWeave$Talk;", false)
  | _ => ("HelperWeave$Fitting", "y", "LHelperWeave$Talk;", false)
def zF2 : Nat → FieldType := fun k => match k with
  | 0 => (.array .int)
  | 1 => (.object "HelperWeave$Talk")
  | _ => (.object "HelperWeave$Talk")
def zY2 : Nat → Nat := fun k => match k with
  | 0 => 3
  | 1 => 3
  | _ => 3
def zT3 : u_T := fun k => match k with
  | 0 => ("HelperWeave$Going", "facts", "I", false)
  | 1 => ("HelperWeave$Going", "taints", "[I", true)
  | _ => ("HelperWeave$Going", "times", "[I", true)
def zF3 : Nat → FieldType := fun k => match k with
  | 0 => .int
  | 1 => (.array .int)
  | _ => (.array .int)
def zY3 : Nat → Nat := fun k => match k with
  | 0 => 0
  | 1 => 3
  | _ => 3
def zT4 : u_T := fun k => match k with
  | _ => ("HelperWeave$Helper", "traits", "[I", true)
def zF4 : Nat → FieldType := fun k => match k with
  | _ => (.array .int)
def zY4 : Nat → Nat := fun k => match k with
  | _ => 3
def zT5 : u_T := fun k => match k with
  | 0 => ("HelperWeave$Level", "bracket", "I", false)
  | 1 => ("HelperWeave$Level", "barred", "Z", false)
  | 2 => ("HelperWeave$Level", "begun", "Z", false)
  | 3 => ("HelperWeave$Level", "firsts", "J", false)
  | 4 => ("HelperWeave$Level", "lasts", "J", false)
  | 5 => ("HelperWeave$Level", "idle", "Z", false)
  | 6 => ("HelperWeave$Level", "branchFirsts", "J", false)
  | 7 => ("HelperWeave$Level", "branchLasts", "J", false)
  | _ => ("HelperWeave$Level", "branchIdle", "Z", false)
def zF5 : Nat → FieldType := fun k => match k with
  | 0 => .int
  | 1 => .boolean
  | 2 => .boolean
  | 3 => .long
  | 4 => .long
  | 5 => .boolean
  | 6 => .long
  | 7 => .long
  | _ => .boolean
def zY5 : Nat → Nat := fun k => match k with
  | 0 => 0
  | 1 => 1
  | 2 => 1
  | 3 => 2
  | 4 => 2
  | 5 => 1
  | 6 => 2
  | 7 => 2
  | _ => 1
def zT6 : u_T := fun k => match k with
  | 0 => ("HelperWeave$Log", "behind", "[LHelperWeave$Worlds;", true)
  | 1 => ("HelperWeave$Log", "events", "I", false)
  | _ => ("HelperWeave$Log", "changed", "LHelperWeave$Worlds;", true)
def zF6 : Nat → FieldType := fun k => match k with
  | 0 => (.array (.object "HelperWeave$Worlds"))
  | 1 => .int
  | _ => (.object "HelperWeave$Worlds")
def zY6 : Nat → Nat := fun k => match k with
  | 0 => 3
  | 1 => 0
  | _ => 3
def zT7 : u_T := fun k => match k with
  | 0 => ("HelperWeave$Page", "letters", "[I", true)
  | 1 => ("HelperWeave$Page", "size", "I", false)
  | 2 => ("HelperWeave$Page", "levels", "[LHelperWeave$Level;", true)
  | 3 => ("HelperWeave$Page", "depth", "I", false)
  | 4 => ("HelperWeave$Page", "steps", "I", false)
  | 5 => ("HelperWeave$Page", "kinds", "[I", true)
  | 6 => ("HelperWeave$Page", "follows", "[J", true)
  | _ => ("HelperWeave$Page", "sign", "I", false)
def zF7 : Nat → FieldType := fun k => match k with
  | 0 => (.array .int)
  | 1 => .int
  | 2 => (.array (.object "HelperWeave$Level"))
  | 3 => .int
  | 4 => .int
  | 5 => (.array .int)
  | 6 => (.array .long)
  | _ => .int
def zY7 : Nat → Nat := fun k => match k with
  | 0 => 3
  | 1 => 0
  | 2 => 3
  | 3 => 0
  | 4 => 0
  | 5 => 3
  | 6 => 3
  | _ => 0
def zT8 : u_T := fun k => match k with
  | 0 => ("HelperWeave$Row", "helpers", "[LHelperWeave$Helper;", true)
  | 1 => ("HelperWeave$Row", "helperCount", "I", false)
  | 2 => ("HelperWeave$Row", "levels", "[I", true)
  | 3 => ("HelperWeave$Row", "places", "[I", true)
  | 4 => ("HelperWeave$Row", "size", "I", false)
  | 5 => ("HelperWeave$Row", "goings", "[LHelperWeave$Going;", true)
  | 6 => ("HelperWeave$Row", "back", "LHelperWeave$Going;", true)
  | 7 => ("HelperWeave$Row", "tried", "[I", true)
  | 8 => ("HelperWeave$Row", "best", "[I", true)
  | 9 => ("HelperWeave$Row", "bestSize", "I", false)
  | 10 => ("HelperWeave$Row", "bestCost", "I", false)
  | 11 => ("HelperWeave$Row", "wished", "I", false)
  | _ => ("HelperWeave$Row", "longest", "I", false)
def zF8 : Nat → FieldType := fun k => match k with
  | 0 => (.array (.object "HelperWeave$Helper"))
  | 1 => .int
  | 2 => (.array .int)
  | 3 => (.array .int)
  | 4 => .int
  | 5 => (.array (.object "HelperWeave$Going"))
  | 6 => (.object "HelperWeave$Going")
  | 7 => (.array .int)
  | 8 => (.array .int)
  | 9 => .int
  | 10 => .int
  | 11 => .int
  | _ => .int
def zY8 : Nat → Nat := fun k => match k with
  | 0 => 3
  | 1 => 0
  | 2 => 3
  | 3 => 3
  | 4 => 0
  | 5 => 3
  | 6 => 3
  | 7 => 3
  | 8 => 3
  | 9 => 0
  | 10 => 0
  | 11 => 0
  | _ => 0
def zT9 : u_T := fun k => match k with
  | 0 => ("HelperWeave$Talk", "steps", "I", true)
  | 1 => ("HelperWeave$Talk", "endStates", "I", false)
  | 2 => ("HelperWeave$Talk", "nextStates", "[I", true)
  | 3 => ("HelperWeave$Talk", "hears", "[I", true)
  | _ => ("HelperWeave$Talk", "says", "[I", true)
def zF9 : Nat → FieldType := fun k => match k with
  | 0 => .int
  | 1 => .int
  | 2 => (.array .int)
  | 3 => (.array .int)
  | _ => (.array .int)
def zY9 : Nat → Nat := fun k => match k with
  | 0 => 0
  | 1 => 0
  | 2 => 3
  | 3 => 3
  | _ => 3
def zT10 : u_T := fun k => match k with
  | 0 => ("HelperWeave$Walk", "places", "[I", true)
  | 1 => ("HelperWeave$Walk", "parents", "[I", true)
  | 2 => ("HelperWeave$Walk", "acts", "[I", true)
  | 3 => ("HelperWeave$Walk", "size", "I", false)
  | 4 => ("HelperWeave$Walk", "slots", "[I", true)
  | 5 => ("HelperWeave$Walk", "spent", "Z", false)
  | 6 => ("HelperWeave$Walk", "way", "[I", true)
  | 7 => ("HelperWeave$Walk", "wayLength", "I", false)
  | 8 => ("HelperWeave$Walk", "a", "LHelperWeave$Talk;", false)
  | 9 => ("HelperWeave$Walk", "b", "LHelperWeave$Talk;", false)
  | _ => ("HelperWeave$Walk", "room", "I", false)
def zF10 : Nat → FieldType := fun k => match k with
  | 0 => (.array .int)
  | 1 => (.array .int)
  | 2 => (.array .int)
  | 3 => .int
  | 4 => (.array .int)
  | 5 => .boolean
  | 6 => (.array .int)
  | 7 => .int
  | 8 => (.object "HelperWeave$Talk")
  | 9 => (.object "HelperWeave$Talk")
  | _ => .int
def zY10 : Nat → Nat := fun k => match k with
  | 0 => 3
  | 1 => 3
  | 2 => 3
  | 3 => 0
  | 4 => 3
  | 5 => 1
  | 6 => 3
  | 7 => 0
  | 8 => 3
  | 9 => 3
  | _ => 0
def zT11 : u_T := fun k => match k with
  | _ => ("HelperWeave$Worlds", "words", "[J", true)
def zF11 : Nat → FieldType := fun k => match k with
  | _ => (.array .long)
def zY11 : Nat → Nat := fun k => match k with
  | _ => 3
def zT12 : u_T := fun k => match k with
  | 0 => ("HelperWeaveModel", "pageLength", "I", false)
  | 1 => ("HelperWeaveModel", "page", "[B", true)
  | 2 => ("HelperWeaveModel", "talks", "I", false)
  | 3 => ("HelperWeaveModel", "stepsOf", "[I", true)
  | 4 => ("HelperWeaveModel", "nextOf", "[I", true)
  | 5 => ("HelperWeaveModel", "endsAt", "[Z", true)
  | 6 => ("HelperWeaveModel", "joined", "I", false)
  | 7 => ("HelperWeaveModel", "adaptersDone", "I", false)
  | 8 => ("HelperWeaveModel", "plans", "I", false)
  | 9 => ("HelperWeaveModel", "helpers", "I", false)
  | 10 => ("HelperWeaveModel", "needsOf", "[I", true)
  | 11 => ("HelperWeaveModel", "givesOf", "[I", true)
  | 12 => ("HelperWeaveModel", "takesOf", "[I", true)
  | 13 => ("HelperWeaveModel", "setOf", "[I", true)
  | 14 => ("HelperWeaveModel", "levels", "[I", true)
  | 15 => ("HelperWeaveModel", "rowSize", "I", false)
  | 16 => ("HelperWeaveModel", "rowOf", "[I", true)
  | 17 => ("HelperWeaveModel", "logFacts", "I", false)
  | 18 => ("HelperWeaveModel", "events", "I", false)
  | 19 => ("HelperWeaveModel", "eventKind", "[I", true)
  | 20 => ("HelperWeaveModel", "eventOf", "[I", true)
  | 21 => ("HelperWeaveModel", "deep", "I", false)
  | 22 => ("HelperWeaveModel", "kinds", "[I", true)
  | 23 => ("HelperWeaveModel", "bars", "[I", true)
  | 24 => ("HelperWeaveModel", "mayBeNone", "[Z", true)
  | 25 => ("HelperWeaveModel", "firsts", "[J", true)
  | 26 => ("HelperWeaveModel", "lasts", "[J", true)
  | 27 => ("HelperWeaveModel", "someNone", "[Z", true)
  | 28 => ("HelperWeaveModel", "someFirst", "[J", true)
  | 29 => ("HelperWeaveModel", "someLast", "[J", true)
  | 30 => ("HelperWeaveModel", "steps", "I", false)
  | 31 => ("HelperWeaveModel", "stepOf", "[I", true)
  | 32 => ("HelperWeaveModel", "follow", "[J", true)
  | 33 => ("HelperWeaveModel", "good", "I", false)
  | 34 => ("HelperWeaveModel", "isWhole", "Z", false)
  | 35 => ("HelperWeaveModel", "walkedMany", "I", false)
  | 36 => ("HelperWeaveModel", "traceSize", "I", false)
  | 37 => ("HelperWeaveModel", "traceOf", "[I", true)
  | 38 => ("HelperWeaveModel", "rowEnd", "I", false)
  | 39 => ("HelperWeaveModel", "codes", "[I", true)
  | 40 => ("HelperWeaveModel", "ahead", "[I", true)
  | 41 => ("HelperWeaveModel", "acts", "[I", true)
  | 42 => ("HelperWeaveModel", "hash", "[I", true)
  | 43 => ("HelperWeaveModel", "becomes", "[I", true)
  | 44 => ("HelperWeaveModel", "comesOf", "[I", true)
  | 45 => ("HelperWeaveModel", "isUnheard", "Z", false)
  | 46 => ("HelperWeaveModel", "passes", "Z", false)
  | 47 => ("HelperWeaveModel", "faultAt", "I", false)
  | 48 => ("HelperWeaveModel", "isSpent", "Z", false)
  | 49 => ("HelperWeaveModel", "isFit", "[Z", true)
  | 50 => ("HelperWeaveModel", "gotAdapter", "I", false)
  | 51 => ("HelperWeaveModel", "heldNow", "I", false)
  | 52 => ("HelperWeaveModel", "taints", "[I", true)
  | 53 => ("HelperWeaveModel", "trial", "[I", true)
  | 54 => ("HelperWeaveModel", "best", "[I", true)
  | 55 => ("HelperWeaveModel", "worlds", "[Z", true)
  | 56 => ("HelperWeaveModel", "then", "[Z", true)
  | _ => ("HelperWeaveModel", "h", "J", false)
def zF12 : Nat → FieldType := fun k => match k with
  | 0 => .int
  | 1 => (.array .byte)
  | 2 => .int
  | 3 => (.array .int)
  | 4 => (.array .int)
  | 5 => (.array .boolean)
  | 6 => .int
  | 7 => .int
  | 8 => .int
  | 9 => .int
  | 10 => (.array .int)
  | 11 => (.array .int)
  | 12 => (.array .int)
  | 13 => (.array .int)
  | 14 => (.array .int)
  | 15 => .int
  | 16 => (.array .int)
  | 17 => .int
  | 18 => .int
  | 19 => (.array .int)
  | 20 => (.array .int)
  | 21 => .int
  | 22 => (.array .int)
  | 23 => (.array .int)
  | 24 => (.array .boolean)
  | 25 => (.array .long)
  | 26 => (.array .long)
  | 27 => (.array .boolean)
  | 28 => (.array .long)
  | 29 => (.array .long)
  | 30 => .int
  | 31 => (.array .int)
  | 32 => (.array .long)
  | 33 => .int
  | 34 => .boolean
  | 35 => .int
  | 36 => .int
  | 37 => (.array .int)
  | 38 => .int
  | 39 => (.array .int)
  | 40 => (.array .int)
  | 41 => (.array .int)
  | 42 => (.array .int)
  | 43 => (.array .int)
  | 44 => (.array .int)
  | 45 => .boolean
  | 46 => .boolean
  | 47 => .int
  | 48 => .boolean
  | 49 => (.array .boolean)
  | 50 => .int
  | 51 => .int
  | 52 => (.array .int)
  | 53 => (.array .int)
  | 54 => (.array .int)
  | 55 => (.array .boolean)
  | 56 => (.array .boolean)
  | _ => .long
def zY12 : Nat → Nat := fun k => match k with
  | 0 => 0
  | 1 => 3
  | 2 => 0
  | 3 => 3
  | 4 => 3
  | 5 => 3
  | 6 => 0
  | 7 => 0
  | 8 => 0
  | 9 => 0
  | 10 => 3
  | 11 => 3
  | 12 => 3
  | 13 => 3
  | 14 => 3
  | 15 => 0
  | 16 => 3
  | 17 => 0
  | 18 => 0
  | 19 => 3
  | 20 => 3
  | 21 => 0
  | 22 => 3
  | 23 => 3
  | 24 => 3
  | 25 => 3
  | 26 => 3
  | 27 => 3
  | 28 => 3
  | 29 => 3
  | 30 => 0
  | 31 => 3
  | 32 => 3
  | 33 => 0
  | 34 => 1
  | 35 => 0
  | 36 => 0
  | 37 => 3
  | 38 => 0
  | 39 => 3
  | 40 => 3
  | 41 => 3
  | 42 => 3
  | 43 => 3
  | 44 => 3
  | 45 => 1
  | 46 => 1
  | 47 => 0
  | 48 => 1
  | 49 => 3
  | 50 => 0
  | 51 => 0
  | 52 => 3
  | 53 => 3
  | 54 => 3
  | 55 => 3
  | 56 => 3
  | _ => 2
def zcl : List vw_C := [("HelperWeave", zT0, 11), ("HelperWeave$Adapting", zT1, 11), ("HelperWeave$Fitting", zT2, 3), ("HelperWeave$Going", zT3, 3), ("HelperWeave$Helper", zT4, 1), ("HelperWeave$Level", zT5, 9), ("HelperWeave$Log", zT6, 3), ("HelperWeave$Page", zT7, 8), ("HelperWeave$Row", zT8, 13), ("HelperWeave$Talk", zT9, 5), ("HelperWeave$Walk", zT10, 11), ("HelperWeave$Worlds", zT11, 1), ("HelperWeaveModel", zT12, 58)]
def zty : Nat → Nat → FieldType := fun c => match c with
  | 0 => zF0
  | 1 => zF1
  | 2 => zF2
  | 3 => zF3
  | 4 => zF4
  | 5 => zF5
  | 6 => zF6
  | 7 => zF7
  | 8 => zF8
  | 9 => zF9
  | 10 => zF10
  | 11 => zF11
  | _ => zF12
/-- the sort of a field: 0 int, 1 boolean, 2 long, 3 reference -/
def zso : Nat → Nat → Nat := fun c => match c with
  | 0 => zY0
  | 1 => zY1
  | 2 => zY2
  | 3 => zY3
  | 4 => zY4
  | 5 => zY5
  | 6 => zY6
  | 7 => zY7
  | 8 => zY8
  | 9 => zY9
  | 10 => zY10
  | 11 => zY11
  | _ => zY12
def znf : Nat → Nat := fun c => match c with
  | 0 => 11
  | 1 => 11
  | 2 => 3
  | 3 => 3
  | 4 => 1
  | 5 => 9
  | 6 => 3
  | 7 => 8
  | 8 => 13
  | 9 => 5
  | 10 => 11
  | 11 => 1
  | _ => 58
def zgw : List Cond := lw_tbl.filter goodWord
def znw_is : Cond → Bool
  | .fieldLinkNest .. => true
  | .methodLinkNest .. => true
  | _ => false
def znw : List Cond := tables_1.filter znw_is
theorem zgw_of {w : Cond} (i : Nat) (h : tables_1[i]? = some w) (hg : goodWord w = true) : w ∈ zgw :=
  List.mem_filter.mpr ⟨List.mem_append_right _ (List.mem_of_getElem? h), hg⟩
theorem zgw_ofs {w : Cond} (i : Nat) (h : (k2_sels lw_privs)[i]? = some w) (hg : goodWord w = true) : w ∈ zgw :=
  List.mem_filter.mpr ⟨List.mem_append_left _ (List.mem_of_getElem? h), hg⟩
theorem znw_of {w : Cond} (i : Nat) (h : tables_1[i]? = some w) (hg : znw_is w = true) : w ∈ znw :=
  List.mem_filter.mpr ⟨List.mem_of_getElem? h, hg⟩
theorem zgw_many (ws : List Cond) (ps : List Nat) (h : ws = ps.filterMap (fun i => tables_1[i]?)) (hg : ws.all goodWord = true) : ∀ w ∈ ws, w ∈ zgw := by
  intro w hw
  have h1 := List.all_eq_true.mp hg w hw
  rw [h] at hw
  obtain ⟨i, -, hi⟩ := List.mem_filterMap.mp hw
  exact zgw_of i hi h1
theorem zgood : GoodIn zgw zgw := fun w hw => ⟨hw, good_of_word (List.mem_filter.mp hw).2⟩
theorem zi0 : ∀ w ∈ u_ws "HelperWeave" zT0 11, w ∈ zgw := zgw_many _ [332, 334, 336, 338, 340, 342, 344, 346, 348, 350, 352] (by decide +kernel) (by decide +kernel)
theorem zn0 : ∀ a, a < 11 → ∀ b, b < 11 → a ≠ b → (zT0 a).2.1 ≠ (zT0 b).2.1 := by decide +kernel
theorem zp0 : ∀ k, k < 11 → parseFieldDescriptor (zT0 k).2.2.1 = some (zty 0 k) := by decide +kernel
theorem zo0 : ∀ k, k < 11 → (zT0 k).1 = "HelperWeave" := by decide +kernel
theorem zi1 : ∀ w ∈ u_ws "HelperWeave$Adapting" zT1 11, w ∈ zgw := zgw_many _ [185, 187, 189, 191, 193, 195, 197, 199, 201, 203, 205] (by decide +kernel) (by decide +kernel)
theorem zn1 : ∀ a, a < 11 → ∀ b, b < 11 → a ≠ b → (zT1 a).2.1 ≠ (zT1 b).2.1 := by decide +kernel
theorem zp1 : ∀ k, k < 11 → parseFieldDescriptor (zT1 k).2.2.1 = some (zty 1 k) := by decide +kernel
theorem zo1 : ∀ k, k < 11 → (zT1 k).1 = "HelperWeave$Adapting" := by decide +kernel
theorem zi2 : ∀ w ∈ u_ws "HelperWeave$Fitting" zT2 3, w ∈ zgw := zgw_many _ [160, 162, 164] (by decide +kernel) (by decide +kernel)
theorem zn2 : ∀ a, a < 3 → ∀ b, b < 3 → a ≠ b → (zT2 a).2.1 ≠ (zT2 b).2.1 := by decide +kernel
theorem zp2 : ∀ k, k < 3 → parseFieldDescriptor (zT2 k).2.2.1 = some (zty 2 k) := by decide +kernel
theorem zo2 : ∀ k, k < 3 → (zT2 k).1 = "HelperWeave$Fitting" := by decide +kernel
theorem zi3 : ∀ w ∈ u_ws "HelperWeave$Going" zT3 3, w ∈ zgw := zgw_many _ [229, 231, 233] (by decide +kernel) (by decide +kernel)
theorem zn3 : ∀ a, a < 3 → ∀ b, b < 3 → a ≠ b → (zT3 a).2.1 ≠ (zT3 b).2.1 := by decide +kernel
theorem zp3 : ∀ k, k < 3 → parseFieldDescriptor (zT3 k).2.2.1 = some (zty 3 k) := by decide +kernel
theorem zo3 : ∀ k, k < 3 → (zT3 k).1 = "HelperWeave$Going" := by decide +kernel
theorem zi4 : ∀ w ∈ u_ws "HelperWeave$Helper" zT4 1, w ∈ zgw := zgw_many _ [707] (by decide +kernel) (by decide +kernel)
theorem zn4 : ∀ a, a < 1 → ∀ b, b < 1 → a ≠ b → (zT4 a).2.1 ≠ (zT4 b).2.1 := by decide +kernel
theorem zp4 : ∀ k, k < 1 → parseFieldDescriptor (zT4 k).2.2.1 = some (zty 4 k) := by decide +kernel
theorem zo4 : ∀ k, k < 1 → (zT4 k).1 = "HelperWeave$Helper" := by decide +kernel
theorem zi5 : ∀ w ∈ u_ws "HelperWeave$Level" zT5 9, w ∈ zgw := zgw_many _ [57, 59, 61, 63, 65, 67, 69, 71, 73] (by decide +kernel) (by decide +kernel)
theorem zn5 : ∀ a, a < 9 → ∀ b, b < 9 → a ≠ b → (zT5 a).2.1 ≠ (zT5 b).2.1 := by decide +kernel
theorem zp5 : ∀ k, k < 9 → parseFieldDescriptor (zT5 k).2.2.1 = some (zty 5 k) := by decide +kernel
theorem zo5 : ∀ k, k < 9 → (zT5 k).1 = "HelperWeave$Level" := by decide +kernel
theorem zi6 : ∀ w ∈ u_ws "HelperWeave$Log" zT6 3, w ∈ zgw := zgw_many _ [303, 305, 307] (by decide +kernel) (by decide +kernel)
theorem zn6 : ∀ a, a < 3 → ∀ b, b < 3 → a ≠ b → (zT6 a).2.1 ≠ (zT6 b).2.1 := by decide +kernel
theorem zp6 : ∀ k, k < 3 → parseFieldDescriptor (zT6 k).2.2.1 = some (zty 6 k) := by decide +kernel
theorem zo6 : ∀ k, k < 3 → (zT6 k).1 = "HelperWeave$Log" := by decide +kernel
theorem zi7 : ∀ w ∈ u_ws "HelperWeave$Page" zT7 8, w ∈ zgw := zgw_many _ [91, 93, 95, 97, 99, 101, 103, 105] (by decide +kernel) (by decide +kernel)
theorem zn7 : ∀ a, a < 8 → ∀ b, b < 8 → a ≠ b → (zT7 a).2.1 ≠ (zT7 b).2.1 := by decide +kernel
theorem zp7 : ∀ k, k < 8 → parseFieldDescriptor (zT7 k).2.2.1 = some (zty 7 k) := by decide +kernel
theorem zo7 : ∀ k, k < 8 → (zT7 k).1 = "HelperWeave$Page" := by decide +kernel
theorem zi8 : ∀ w ∈ u_ws "HelperWeave$Row" zT8 13, w ∈ zgw := zgw_many _ [254, 256, 258, 260, 262, 264, 266, 268, 270, 272, 274, 276, 278] (by decide +kernel) (by decide +kernel)
theorem zn8 : ∀ a, a < 13 → ∀ b, b < 13 → a ≠ b → (zT8 a).2.1 ≠ (zT8 b).2.1 := by decide +kernel
theorem zp8 : ∀ k, k < 13 → parseFieldDescriptor (zT8 k).2.2.1 = some (zty 8 k) := by decide +kernel
theorem zo8 : ∀ k, k < 13 → (zT8 k).1 = "HelperWeave$Row" := by decide +kernel
theorem zi9 : ∀ w ∈ u_ws "HelperWeave$Talk" zT9 5, w ∈ zgw := zgw_many _ [484, 486, 488, 490, 492] (by decide +kernel) (by decide +kernel)
theorem zn9 : ∀ a, a < 5 → ∀ b, b < 5 → a ≠ b → (zT9 a).2.1 ≠ (zT9 b).2.1 := by decide +kernel
theorem zp9 : ∀ k, k < 5 → parseFieldDescriptor (zT9 k).2.2.1 = some (zty 9 k) := by decide +kernel
theorem zo9 : ∀ k, k < 5 → (zT9 k).1 = "HelperWeave$Talk" := by decide +kernel
theorem zi10 : ∀ w ∈ u_ws "HelperWeave$Walk" zT10 11, w ∈ zgw := zgw_many _ [128, 130, 132, 134, 136, 138, 140, 142, 144, 146, 148] (by decide +kernel) (by decide +kernel)
theorem zn10 : ∀ a, a < 11 → ∀ b, b < 11 → a ≠ b → (zT10 a).2.1 ≠ (zT10 b).2.1 := by decide +kernel
theorem zp10 : ∀ k, k < 11 → parseFieldDescriptor (zT10 k).2.2.1 = some (zty 10 k) := by decide +kernel
theorem zo10 : ∀ k, k < 11 → (zT10 k).1 = "HelperWeave$Walk" := by decide +kernel
theorem zi11 : ∀ w ∈ u_ws "HelperWeave$Worlds" zT11 1, w ∈ zgw := zgw_many _ [295] (by decide +kernel) (by decide +kernel)
theorem zn11 : ∀ a, a < 1 → ∀ b, b < 1 → a ≠ b → (zT11 a).2.1 ≠ (zT11 b).2.1 := by decide +kernel
theorem zp11 : ∀ k, k < 1 → parseFieldDescriptor (zT11 k).2.2.1 = some (zty 11 k) := by decide +kernel
theorem zo11 : ∀ k, k < 1 → (zT11 k).1 = "HelperWeave$Worlds" := by decide +kernel
theorem zi12 : ∀ w ∈ u_ws "HelperWeaveModel" zT12 58, w ∈ zgw := zgw_many _ [1071, 1073, 1075, 1077, 1079, 1081, 1083, 1085, 1087, 1089, 1091, 1093, 1095, 1097, 1099, 1101, 1103, 1105, 1107, 1109, 1111, 1113, 1115, 1117, 1119, 1121, 1123, 1125, 1127, 1129, 1131, 1133, 1135, 1137, 1139, 1141, 1143, 1145, 1147, 1149, 1151, 1153, 1155, 1157, 1159, 1161, 1163, 1165, 1167, 1169, 1171, 1173, 1175, 1177, 1179, 1181, 1183, 1185] (by decide +kernel) (by decide +kernel)
theorem zn12 : ∀ a, a < 58 → ∀ b, b < 58 → a ≠ b → (zT12 a).2.1 ≠ (zT12 b).2.1 := by decide +kernel
theorem zp12 : ∀ k, k < 58 → parseFieldDescriptor (zT12 k).2.2.1 = some (zty 12 k) := by decide +kernel
theorem zo12 : ∀ k, k < 58 → (zT12 k).1 = "HelperWeaveModel" := by decide +kernel
/-- what the rows below ask of a class of the list -/
def zok (ci : Nat) (r : vw_C) : Prop := (∀ w ∈ u_ws r.1 r.2.1 r.2.2, w ∈ zgw) ∧ (∀ a, a < r.2.2 → ∀ b, b < r.2.2 → a ≠ b → (r.2.1 a).2.1 ≠ (r.2.1 b).2.1) ∧ (∀ k, k < r.2.2 → parseFieldDescriptor (r.2.1 k).2.2.1 = some (zty ci k)) ∧ (∀ k, k < r.2.2 → (r.2.1 k).1 = r.1) ∧ znf ci = r.2.2 ∧ Cond.instantiable r.1 r.2.2 ∈ zgw ∧ Cond.initialized r.1 ∈ zgw
theorem zk0 : zok 0 ("HelperWeave", zT0, 11) := ⟨zi0, zn0, zp0, zo0, rfl, zgw_of 20 (by decide +kernel) (by decide +kernel), zgw_of 1 (by decide +kernel) (by decide +kernel)⟩
theorem zk1 : zok 1 ("HelperWeave$Adapting", zT1, 11) := ⟨zi1, zn1, zp1, zo1, rfl, zgw_of 168 (by decide +kernel) (by decide +kernel), zgw_of 6 (by decide +kernel) (by decide +kernel)⟩
theorem zk2 : zok 2 ("HelperWeave$Fitting", zT2, 3) := ⟨zi2, zn2, zp2, zo2, rfl, zgw_of 152 (by decide +kernel) (by decide +kernel), zgw_of 5 (by decide +kernel) (by decide +kernel)⟩
theorem zk3 : zok 3 ("HelperWeave$Going", zT3, 3) := ⟨zi3, zn3, zp3, zo3, rfl, zgw_of 218 (by decide +kernel) (by decide +kernel), zgw_of 8 (by decide +kernel) (by decide +kernel)⟩
theorem zk4 : zok 4 ("HelperWeave$Helper", zT4, 1) := ⟨zi4, zn4, zp4, zo4, rfl, zgw_of 695 (by decide +kernel) (by decide +kernel), zgw_of 16 (by decide +kernel) (by decide +kernel)⟩
theorem zk5 : zok 5 ("HelperWeave$Level", zT5, 9) := ⟨zi5, zn5, zp5, zo5, rfl, zgw_of 35 (by decide +kernel) (by decide +kernel), zgw_of 3 (by decide +kernel) (by decide +kernel)⟩
theorem zk6 : zok 6 ("HelperWeave$Log", zT6, 3) := ⟨zi6, zn6, zp6, zo6, rfl, zgw_of 282 (by decide +kernel) (by decide +kernel), zgw_of 9 (by decide +kernel) (by decide +kernel)⟩
theorem zk7 : zok 7 ("HelperWeave$Page", zT7, 8) := ⟨zi7, zn7, zp7, zo7, rfl, zgw_of 28 (by decide +kernel) (by decide +kernel), zgw_of 2 (by decide +kernel) (by decide +kernel)⟩
theorem zk8 : zok 8 ("HelperWeave$Row", zT8, 13) := ⟨zi8, zn8, zp8, zo8, rfl, zgw_of 209 (by decide +kernel) (by decide +kernel), zgw_of 7 (by decide +kernel) (by decide +kernel)⟩
theorem zk9 : zok 9 ("HelperWeave$Talk", zT9, 5) := ⟨zi9, zn9, zp9, zo9, rfl, zgw_of 448 (by decide +kernel) (by decide +kernel), zgw_of 13 (by decide +kernel) (by decide +kernel)⟩
theorem zk10 : zok 10 ("HelperWeave$Walk", zT10, 11) := ⟨zi10, zn10, zp10, zo10, rfl, zgw_of 111 (by decide +kernel) (by decide +kernel), zgw_of 4 (by decide +kernel) (by decide +kernel)⟩
theorem zk11 : zok 11 ("HelperWeave$Worlds", zT11, 1) := ⟨zi11, zn11, zp11, zo11, rfl, zgw_of 289 (by decide +kernel) (by decide +kernel), zgw_of 10 (by decide +kernel) (by decide +kernel)⟩
theorem zk12 : zok 12 ("HelperWeaveModel", zT12, 58) := ⟨zi12, zn12, zp12, zo12, rfl, zgw_of 1008 (by decide +kernel) (by decide +kernel), zgw_of 12 (by decide +kernel) (by decide +kernel)⟩
theorem zall : ∀ ci r, zcl[ci]? = some r → zok ci r := by
  intro ci r h
  match ci, h with
  | 0, h => cases h; exact zk0
  | 1, h => cases h; exact zk1
  | 2, h => cases h; exact zk2
  | 3, h => cases h; exact zk3
  | 4, h => cases h; exact zk4
  | 5, h => cases h; exact zk5
  | 6, h => cases h; exact zk6
  | 7, h => cases h; exact zk7
  | 8, h => cases h; exact zk8
  | 9, h => cases h; exact zk9
  | 10, h => cases h; exact zk10
  | 11, h => cases h; exact zk11
  | 12, h => cases h; exact zk12
  | n + 13, h => simp [zcl] at h
theorem zso_int : ∀ ci, ci < 13 → ∀ k, k < znf ci → (zso ci k = 0 → zty ci k = .int) ∧ (zso ci k = 1 → zty ci k = .boolean) ∧ (zso ci k = 2 → zty ci k = .long) ∧ (zso ci k = 3 → refKind (zty ci k) = true) ∧ zso ci k < 4 := by decide +kernel
end
section
/-! THE ABSTRACT HEAP: (next free address, slots made so far, kinds, ints, longs, references).
Addresses 0, 1, 2: the static tables; 3: the script; from 4 on: what the run has made. A kind: (1 int, 2 boolean, 3 byte, 4 long, 10 + c references to c; length) or (100 + c, 0) an object of c. -/
abbrev AH : Type := Nat × Nat × (Nat → Nat × Nat) × (Nat → Nat → Int32) × (Nat → Nat → Int64) × (Nat → Nat → Option Nat)
def hM (h : AH) : Nat := h.1
def hZ (h : AH) : Nat := h.2.1
def hK (h : AH) (a : Nat) : Nat × Nat := h.2.2.1 a
def hI (h : AH) (a k : Nat) : Int32 := h.2.2.2.1 a k
def hJ (h : AH) (a k : Nat) : Int64 := h.2.2.2.2.1 a k
def hR (h : AH) (a k : Nat) : Option Nat := h.2.2.2.2.2 a k
def uI (h : AH) (a k : Nat) (v : Int32) : AH := (h.1, h.2.1, h.2.2.1, fun x y => if x = a ∧ y = k then v else h.2.2.2.1 x y, h.2.2.2.2.1, h.2.2.2.2.2)
def uJ (h : AH) (a k : Nat) (v : Int64) : AH := (h.1, h.2.1, h.2.2.1, h.2.2.2.1, fun x y => if x = a ∧ y = k then v else h.2.2.2.2.1 x y, h.2.2.2.2.2)
def uR (h : AH) (a k : Nat) (v : Option Nat) : AH := (h.1, h.2.1, h.2.2.1, h.2.2.2.1, h.2.2.2.2.1, fun x y => if x = a ∧ y = k then v else h.2.2.2.2.2 x y)
/-- a new cell of kind q that takes n slots -/
def uN' (h : AH) (q : Nat × Nat) (n : Nat) : AH := (h.1 + 1, h.2.1 + n, fun x => if x = h.1 then q else h.2.2.1 x, fun x y => if x = h.1 then 0 else h.2.2.2.1 x y, fun x y => if x = h.1 then 0 else h.2.2.2.2.1 x y, fun x y => if x = h.1 then none else h.2.2.2.2.2 x y)
/-- one row of ints, of longs put anew -/
def uIr (h : AH) (a : Nat) (f : Nat → Int32) : AH := (h.1, h.2.1, h.2.2.1, fun x y => if x = a then f y else h.2.2.2.1 x y, h.2.2.2.2.1, h.2.2.2.2.2)
def uJr (h : AH) (a : Nat) (f : Nat → Int64) : AH := (h.1, h.2.1, h.2.2.1, h.2.2.2.1, fun x y => if x = a then f y else h.2.2.2.2.1 x y, h.2.2.2.2.2)
/-! what the program does with it: none where the machine would throw -/
def gI (c : Nat) (h : AH) (a k : Nat) : Option Int32 := if hK h a = (100 + c, 0) then some (hI h a k) else none
def gJ (c : Nat) (h : AH) (a k : Nat) : Option Int64 := if hK h a = (100 + c, 0) then some (hJ h a k) else none
def gR (c : Nat) (h : AH) (a k : Nat) : Option (Option Nat) := if hK h a = (100 + c, 0) then some (hR h a k) else none
def pI (c : Nat) (h : AH) (a k : Nat) (v : Int32) : Option AH := if hK h a = (100 + c, 0) then some (uI h a k v) else none
def pZ (c : Nat) (h : AH) (a k : Nat) (v : Int32) : Option AH := if hK h a = (100 + c, 0) ∧ (v = 0 ∨ v = 1) then some (uI h a k v) else none
def pJ (c : Nat) (h : AH) (a k : Nat) (v : Int64) : Option AH := if hK h a = (100 + c, 0) then some (uJ h a k v) else none
def pR (c : Nat) (h : AH) (a k : Nat) (v : Option Nat) : Option AH := if hK h a = (100 + c, 0) then some (uR h a k v) else none
def ix (d : Nat) (h : AH) (a : Nat) (i : Int32) : Option Nat := if (hK h a).1 = d ∧ ¬ i < 0 ∧ i.toNatClampNeg < (hK h a).2 then some i.toNatClampNeg else none
def rI (d : Nat) (h : AH) (a : Nat) (i : Int32) : Option Int32 := (ix d h a i).bind fun j => some (hI h a j)
def rJ (h : AH) (a : Nat) (i : Int32) : Option Int64 := (ix 4 h a i).bind fun j => some (hJ h a j)
def rR (c : Nat) (h : AH) (a : Nat) (i : Int32) : Option (Option Nat) := (ix (10 + c) h a i).bind fun j => some (hR h a j)
def wI (h : AH) (a : Nat) (i v : Int32) : Option AH := if 4 ≤ a then (ix 1 h a i).bind fun j => some (uI h a j v) else none
def wZ (h : AH) (a : Nat) (i v : Int32) : Option AH := if 4 ≤ a then (ix 2 h a i).bind fun j => some (uI h a j (v &&& 1)) else none
def wB (h : AH) (a : Nat) (i v : Int32) : Option AH := if 4 ≤ a then (ix 3 h a i).bind fun j => some (uI h a j v.toInt8.toInt32) else none
def wJ (h : AH) (a : Nat) (i : Int32) (v : Int64) : Option AH := if 4 ≤ a then (ix 4 h a i).bind fun j => some (uJ h a j v) else none
def wR (c : Nat) (h : AH) (a : Nat) (i : Int32) (v : Option Nat) : Option AH := if (∀ x ∈ v, hK h x = (100 + c, 0)) then (ix (10 + c) h a i).bind fun j => some (uR h a j v) else none
def nO (c : Nat) (h : AH) : AH := uN' h (100 + c, 0) (znf c)
def nAr (d : Nat) (h : AH) (n : Int32) : Option AH := if ¬ n < 0 ∧ n.toNatClampNeg ≤ 1000000 then some (uN' h (d, n.toNatClampNeg) n.toNatClampNeg) else none
def aln (h : AH) (a : Nat) : Int32 := Int32.ofNat (hK h a).2
def alen (d : Nat) (h : AH) (a : Nat) : Option Int32 := if (hK h a).1 = d then some (Int32.ofNat (hK h a).2) else none
def cpI (h : AH) (a : Nat) (i : Int32) (b : Nat) (j n : Int32) : Option AH :=
  if (hK h a).1 = 1 ∧ (hK h b).1 = 1 ∧ 4 ≤ a ∧ 4 ≤ b ∧ ¬ i < 0 ∧ ¬ j < 0 ∧ ¬ n < 0 ∧ i.toNatClampNeg + n.toNatClampNeg ≤ (hK h a).2 ∧ j.toNatClampNeg + n.toNatClampNeg ≤ (hK h b).2 then some (uIr h b (va_cpy (hI h a) (hI h b) i.toNatClampNeg j.toNatClampNeg n.toNatClampNeg)) else none
def cpJ (h : AH) (a : Nat) (i : Int32) (b : Nat) (j n : Int32) : Option AH :=
  if (hK h a).1 = 4 ∧ (hK h b).1 = 4 ∧ 4 ≤ a ∧ 4 ≤ b ∧ ¬ i < 0 ∧ ¬ j < 0 ∧ ¬ n < 0 ∧ i.toNatClampNeg + n.toNatClampNeg ≤ (hK h a).2 ∧ j.toNatClampNeg + n.toNatClampNeg ≤ (hK h b).2 then some (uJr h b (va_cpy (hJ h a) (hJ h b) i.toNatClampNeg j.toNatClampNeg n.toNatClampNeg)) else none
/-! THE LINK to the machine's heap -/
abbrev EN : Type := va_G × (Nat → ClassId) × Nat × (Nat → Nat) × AH
def eD (E : EN) : va_G := E.1
def eA (E : EN) : Nat → ClassId := E.2.1
def eN (E : EN) : Nat := E.2.2.1
def eS (E : EN) : Nat → Nat := E.2.2.2.1
def eH (E : EN) : AH := E.2.2.2.2
/-- where an address of ours lies in the machine -/
def ad (E : EN) (a : Nat) : Nat := if a < 4 then eS E a else eN E + (a - 4)
def vr (E : EN) : Value → Value
  | .ref a => .ref (ad E a)
  | v => v
/-- what may be written: what was made since the start -/
def fr (E : EN) : Nat → Prop := fun q => eN E ≤ q
def fvl (E : EN) (h : AH) (a t k : Nat) : Value := match t with
  | 2 => .long (hJ h a k)
  | 3 => va_rf ((hR h a k).map (ad E))
  | _ => .int (hI h a k)
def fls (E : EN) (h : AH) (a c : Nat) : List Value := (List.range (znf c)).map (fun k => fvl E h a (zso c k) k)
def arr (E : EN) (h : AH) (a d : Nat) : (Nat → Int32) ⊕ (Nat → Int64) ⊕ (Nat → UInt32) ⊕ (Nat → UInt64) ⊕ (Nat → Option Nat) :=
  if d = 4 then .inr (.inl (hJ h a)) else if d < 4 then .inl (hI h a) else .inr (.inr (.inr (.inr (fun i => (hR h a i).map (ad E)))))
def cel (E : EN) (h : AH) (a : Nat) : va_E :=
  if (hK h a).1 < 100 then .inl (eA E (hK h a).1, (hK h a).2, arr E h a (hK h a).1) else .inr ((hK h a).1 - 100, fls E h a ((hK h a).1 - 100))
def kty : Nat → FieldType := fun d => match d with
  | 1 => .int
  | 2 => .boolean
  | 3 => .byte
  | 4 => .long
  | 13 => .object "HelperWeave$Going"
  | 14 => .object "HelperWeave$Helper"
  | 15 => .object "HelperWeave$Level"
  | 19 => .object "HelperWeave$Talk"
  | _ => .object "HelperWeave$Worlds"
def kds : List Nat := [1, 2, 3, 4, 13, 14, 15, 19, 21]
def tys (E : EN) : List (ClassId × FieldType) := kds.map (fun d => (eA E d, kty d))
theorem tys_at (E : EN) {d : Nat} (h : d ∈ kds) : ∃ t0 : Nat, (tys E)[t0]? = some (eA E d, kty d) := List.getElem?_of_mem (List.mem_map.mpr ⟨d, h, rfl⟩)
def zao : List String := ["HelperWeave$Going", "HelperWeave$Helper", "HelperWeave$Level", "HelperWeave$Talk", "HelperWeave$Worlds"]
def RK (E : EN) (U : State) : Prop := va_K (eD E) zcl (tys E) U ∧ (∀ w ∈ znw, va_Nw w U) ∧
  (va_Z "HelperWeave" "LEAST_TRAIT" "[I" (.ref (eS E 0)) (fr E) U U.heap ∧ va_Z "HelperWeave" "GREATEST_TRAIT" "[I" (.ref (eS E 1)) (fr E) U U.heap ∧ va_Z "HelperWeave" "WITH_FACT" "[J" (.ref (eS E 2)) (fr E) U U.heap) ∧
  (∀ a, a < 4 → a ≠ 2 → va_T .int (eS E a) (hK (eH E) a).2 (fun j => .int (hI (eH E) a j)) (fr E) U U.heap) ∧ va_T .long (eS E 2) (hK (eH E) 2).2 (fun j => .long (hJ (eH E) 2 j)) (fr E) U U.heap ∧ ∀ C ∈ zao, va_AO C U
def RH (E : EN) (h : AH) (H : Heap) : Prop := 4 ≤ hM h ∧ H.size = eN E + (hM h - 4) ∧ (∀ a, 4 ≤ a → a < hM h → va_at (eD E) zcl (ad E a, cel E h a) H) ∧ (∀ a, hM h ≤ a → hK h a = (0, 0)) ∧
  (∀ a, a < 4 → hK h a = hK (eH E) a ∧ hI h a = hI (eH E) a ∧ hJ h a = hJ (eH E) a) ∧ (∀ a, a < 4 → (hK h a).1 = if a = 2 then 4 else 1)
def LH (E : EN) (ls : Array Slot) (L : List (Option Value)) : Prop := ls.size = L.length ∧ lv_wf ls ∧ ∀ (i : Nat) (v : Value), L[i]? = some (some v) → ls[i]? = some (.val (vr E v))
abbrev MI : Type := MethodName × ByteArray × Nat × Option FieldType
def FX (E : EN) (mi : MI) (p : Program) (s : State) (m : MethodId) (args : Array Value) (meth : Method) (c : Code) : Prop :=
  p.tables.exec = Jvm.exec ∧ c.code = mi.2.1 ∧ c.maxLocals = mi.2.2.1 ∧ meth.sig.returnType = mi.2.2.2 ∧ meth.locks = false ∧ s.vm.findClass mi.1.cls = some m.cls ∧ (mi.1.name = "<init>" → meth.name = "<init>") ∧ (∀ w ∈ zgw, w.before args s = true) ∧ RK E s ∧ eN E ≤ s.heap.size
abbrev QF : Type := List Frame → Array Value → State → State → Prop
/-- THE JUDGEMENT: wherever this abstract state stands, the machine comes to its end -/
def AW (l : Launch) (E : EN) (mi : MI) (R : Room) (B : (Nat × Nat) × (Nat × Nat)) (Qf : QF) (pc : Nat) (L : List (Option Value)) (st : List Value) (h : AH) : Prop :=
  (hM h ≤ B.2.1 ∧ hZ h ≤ B.2.2 ∧ B.2.1 ≤ B.1.1 + R.cells ∧ B.2.2 ≤ B.1.2 + R.slots) ∧ (B.1.1 ≤ hM h → B.1.2 ≤ hZ h → L.length = mi.2.2.1 → ∀ (p : Program) (e : Env) (s : State) (m : MethodId) (args : Array Value) (below : List Frame) (meth : Method) (c : Code) (H : Heap) (locs : List Loc) (ls : Array Slot),
    FX E mi p s m args meth c → RH E h H → va_S (fr E) s.heap H locs → LH E ls L →
    W p l e R s m args below meth c H locs (hM h - B.1.1) (hZ h - B.1.2) (Qf below args s) (F0 m pc ls (st.map (vr E))))
def rmOf (d : Nat) (B : (Nat × Nat) × (Nat × Nat)) : Room := { frames := d, cells := B.2.1 - B.1.1, slots := B.2.2 - B.1.2, locals := 64 * d }
def bOf (h hf : AH) : (Nat × Nat) × (Nat × Nat) := ((hM h, hZ h), (hM hf, hZ hf))
def Qc (E : EN) (rf : Option Value) (hf : AH) : Array Value → State → Outcome → State → Prop := fun _ st oc t => oc = .returned (rf.map (vr E)) ∧ RH E hf t.heap ∧ va_F (fr E) st t
def Pc (E : EN) (av : List Value) (h : AH) : Array Value → State → Prop := fun v U => v = (av.map (vr E)).toArray ∧ RK E U ∧ RH E h U.heap
/-- A METHOD'S CONTRACT: from these arguments and this heap it returns rf and leaves hf -/
def AM (l : Launch) (E : EN) (d : Nat) (mi : MI) (av : List Value) (h : AH) (rf : Option Value) (hf : AH) : Prop := (hM h ≤ hM hf ∧ hZ h ≤ hZ hf) ∧
  Met l mi.1 (.code mi.1 mi.2.1 mi.2.2.1 mi.2.2.2 :: zgw) (rmOf d (bOf h hf)) (Pc E av h) (Qc E rf hf) (hM hf - hM h) (hZ hf - hZ h) (fr E)
/-- the end that a method's walk must reach -/
def MF (E : EN) (B : (Nat × Nat) × (Nat × Nat)) (rf : Option Value) (hf : AH) : QF := fun below args s => MQ below (Qc E rf hf) args s (hM hf - B.1.1) (hZ hf - B.1.2) (fr E)
/-! small facts -/
theorem vr_cat (E : EN) (v : Value) : (vr E v).category = v.category := by cases v <;> rfl
theorem vr_rf (E : EN) (r : Option Nat) : vr E (va_rf r) = va_rf (r.map (ad E)) := by cases r <;> rfl
theorem vr_sum (E : EN) (st : List Value) : ((st.map (vr E)).map fun v => v.category).sum = (st.map fun v => v.category).sum := by
  induction st with
  | nil => rfl
  | cons v st ih => simp only [List.map_cons, List.sum_cons, ih, vr_cat]
theorem ad_ge {E : EN} {a : Nat} (h : 4 ≤ a) : ad E a = eN E + (a - 4) := by unfold ad; rw [if_neg (by omega)]
theorem ad_fr {E : EN} {a : Nat} (h : 4 ≤ a) : fr E (ad E a) := by rw [ad_ge h]; unfold fr; omega
theorem ad_inj {E : EN} {a b : Nat} (ha : 4 ≤ a) (hb : 4 ≤ b) (h : ad E a = ad E b) : a = b := by rw [ad_ge ha, ad_ge hb] at h; omega
theorem RK.moved {E : EN} {s U : State} {H : Heap} {locs : List Loc} (h : RK E s) (hS : va_S (fr E) s.heap H locs) (hU : U.heap = H) (hW : s.WarmedH U.vm) : RK E U := by
  obtain ⟨h1, h2, ⟨z1, z2, z3⟩, h4, h5, h6⟩ := h
  have hk : ∀ q : Nat, q < s.heap.size → ¬ fr E q → U.heap[q]? = s.heap[q]? := fun q a b => by rw [hU]; exact hS.2.1 q a b
  refine ⟨va_K.moved hW.alike h1, fun w hw => ?_, ⟨(z1.moved hW.alike).kept hk, (z2.moved hW.alike).kept hk, (z3.moved hW.alike).kept hk⟩, fun a ha h2 => ((h4 a ha h2).moved hW.alike).kept hk, (h5.moved hW.alike).kept hk, fun C hC => va_AO.moved hW.alike (h6 C hC)⟩
  have hn := (List.mem_filter.mp hw).2
  have h3 := h2 w hw
  cases w <;> first | exact va_Nw.warmF hW h3 | exact va_Nw.warmM hW h3 | (simp [znw_is] at hn)
theorem RK.blind {E : EN} {U : State} (h : RK E U) (a : Array Value) (g : JFrame) (mk : MethodId) : RK E (U.calling g mk a) := by
  obtain ⟨h1, h2, ⟨z1, z2, z3⟩, h4, h5, h6⟩ := h
  have hv : U.vm.Alike (U.calling g mk a).vm := Vm.Alike.refl U.vm
  refine ⟨va_K.moved hv h1, fun w hw => ?_, ⟨z1.moved hv, z2.moved hv, z3.moved hv⟩, fun a ha h2 => (h4 a ha h2).moved hv, h5.moved hv, fun C hC => va_AO.moved hv (h6 C hC)⟩
  have hn := (List.mem_filter.mp hw).2
  exact va_Nw.same (by cases w <;> first | rfl | (simp [znw_is] at hn)) (u := U) (U := U.calling g mk a) rfl (h2 w hw)
theorem LH.mask {E : EN} {ls : Array Slot} {L : List (Option Value)} (h : LH E ls L) (bs : List Bool) (hb : bs.length = L.length) : LH E ls (List.zipWith (fun (b : Bool) (v : Option Value) => if b then v else none) bs L) := by
  obtain ⟨h1, h2, h3⟩ := h
  refine ⟨by rw [List.length_zipWith, hb, Nat.min_self]; exact h1, h2, fun i v hv => h3 i v ?_⟩
  rw [List.getElem?_zipWith] at hv
  cases hbi : bs[i]? with
  | none => simp [hbi] at hv
  | some b =>
    cases hli : L[i]? with
    | none => simp [hbi, hli] at hv
    | some o =>
      simp only [hbi, hli] at hv
      cases b with
      | true => simpa using hv
      | false => simp at hv
/-- the locals as the kit lists them -/
def lpairs (E : EN) (L : List (Option Value)) : List (Nat × Value) := (List.range L.length).filterMap (fun i => (L[i]?.getD none).map (fun v => (i, vr E v)))
theorem lpairs_mem {E : EN} {L : List (Option Value)} {i : Nat} {v : Value} (h : L[i]? = some (some v)) : (i, vr E v) ∈ lpairs E L := by
  refine List.mem_filterMap.mpr ⟨i, List.mem_range.mpr (List.getElem?_eq_some_iff.mp h).1, ?_⟩
  simp [h]
theorem lpairs_of {E : EN} {L : List (Option Value)} {q : Nat × Value} (h : q ∈ lpairs E L) : ∃ v, L[q.1]? = some (some v) ∧ q.2 = vr E v := by
  obtain ⟨i, hi, hq⟩ := List.mem_filterMap.mp h
  cases hl : L[i]? with
  | none => simp [hl] at hq
  | some o =>
    cases o with
    | none => simp [hl] at hq
    | some v =>
      simp only [hl, Option.getD_some, Option.map_some, Option.some.injEq] at hq
      subst hq
      exact ⟨v, hl, rfl⟩
theorem LH.has {E : EN} {ls : Array Slot} {L : List (Option Value)} (h : LH E ls L) : lv_has ls L.length (lpairs E L) := by
  refine ⟨h.1, h.2.1, fun q hq => ?_⟩
  obtain ⟨v, h1, h2⟩ := lpairs_of hq
  rw [h2]
  exact h.2.2 q.1 v h1
/-- one slot stored: the place below must hold nothing of two slots -/
theorem LH.st1 {E : EN} {ls' : Array Slot} {L : List (Option Value)} {i : Nat} {v : Value} (h : lv_has ls' L.length ((i, vr E v) :: (lpairs E L).filter (fun q => !(q.1 == i) && !(q.1 + 1 == i && q.2.category == 2)))) (hc : i = 0 ∨ ∀ w, L[i - 1]? = some (some w) → w.category = 1) : LH E ls' (L.set i (some v)) := by
  refine ⟨by rw [List.length_set]; exact h.1, h.2.1, fun j w hw => ?_⟩
  by_cases hj : j = i
  · subst hj
    have hw' : some v = some w := by
      have hlt : j < (L.set j (some v)).length := (List.getElem?_eq_some_iff.mp hw).1
      rw [List.getElem?_set_self (by simpa using hlt)] at hw
      exact Option.some.inj hw
    cases hw'
    exact h.2.2 _ List.mem_cons_self
  · rw [List.getElem?_set_ne (Ne.symm hj)] at hw
    refine h.2.2 (j, vr E w) (List.mem_cons_of_mem _ (List.mem_filter.mpr ⟨lpairs_mem hw, ?_⟩))
    by_cases hk : j + 1 = i
    · have h1 : w.category = 1 := hc.elim (fun z => absurd z (by omega)) (fun hc => hc w (by rw [← hk, Nat.add_sub_cancel]; exact hw))
      simp [hj, vr_cat, h1]
    · simp [hj, hk]
/-- two slots stored -/
theorem LH.st2 {E : EN} {ls' : Array Slot} {L : List (Option Value)} {i : Nat} {v : Value} (h : lv_has ls' L.length ((i, vr E v) :: (lpairs E L).filter (fun q => !(q.1 == i) && (!(q.1 == i + 1) && !(q.1 + 1 == i && q.2.category == 2))))) (hc : i = 0 ∨ ∀ w, L[i - 1]? = some (some w) → w.category = 1) : LH E ls' ((L.set (i + 1) none).set i (some v)) := by
  refine ⟨by rw [List.length_set, List.length_set]; exact h.1, h.2.1, fun j w hw => ?_⟩
  by_cases hj : j = i
  · subst hj
    have hw' : some v = some w := by
      have hlt : j < ((L.set (j + 1) none).set j (some v)).length := (List.getElem?_eq_some_iff.mp hw).1
      rw [List.getElem?_set_self (by simpa using hlt)] at hw
      exact Option.some.inj hw
    cases hw'
    exact h.2.2 _ List.mem_cons_self
  · rw [List.getElem?_set_ne (Ne.symm hj)] at hw
    by_cases hj2 : j = i + 1
    · subst hj2
      have hlt := (List.getElem?_eq_some_iff.mp hw).1
      rw [List.getElem?_set_self (by simpa using hlt)] at hw
      cases hw
    · rw [List.getElem?_set_ne (Ne.symm hj2)] at hw
      refine h.2.2 (j, vr E w) (List.mem_cons_of_mem _ (List.mem_filter.mpr ⟨lpairs_mem hw, ?_⟩))
      by_cases hk : j + 1 = i
      · have h1 : w.category = 1 := hc.elim (fun z => absurd z (by omega)) (fun hc => hc w (by rw [← hk, Nat.add_sub_cancel]; exact hw))
        simp [hj, hj2, vr_cat, h1]
      · simp [hj, hj2, hk]
end
section
/-! THE RULES of the judgement, an instruction each: those that touch no cell -/
section AR
variable {l : Launch} {E : EN} {mi : MI} {R : Room} {B : (Nat × Nat) × (Nat × Nat)} {Qf : QF} {pc : Nat} {L : List (Option Value)} {st : List Value} {h : AH}
theorem ax_iconst {n : Int} (v : Int32) (hd : decode mi.2.1 pc = .ok (.iconst n, 1)) (hv : Int32.ofInt n = v) (k : AW l E mi R B Qf (pc + 1) L (.int v :: st) h) : AW l E mi R B Qf pc L (st) h :=
  ⟨k.1, fun b1 b2 hL p e s m args below meth c H locs ls F hR hS hl => lv_iconst F.1 F.2.1 hd hv (k.2 b1 b2 hL p e s m args below meth c H locs ls F hR hS hl)⟩
theorem ax_bipush {n : Int} (v : Int32) (hd : decode mi.2.1 pc = .ok (.bipush n, 2)) (hv : (Int8.ofInt n).toInt32 = v) (k : AW l E mi R B Qf (pc + 2) L (.int v :: st) h) : AW l E mi R B Qf pc L (st) h :=
  ⟨k.1, fun b1 b2 hL p e s m args below meth c H locs ls F hR hS hl => lv_bipush F.1 F.2.1 hd hv (k.2 b1 b2 hL p e s m args below meth c H locs ls F hR hS hl)⟩
theorem ax_sipush {n : Int} (v : Int32) (hd : decode mi.2.1 pc = .ok (.sipush n, 3)) (hv : (Int16.ofInt n).toInt32 = v) (k : AW l E mi R B Qf (pc + 3) L (.int v :: st) h) : AW l E mi R B Qf pc L (st) h :=
  ⟨k.1, fun b1 b2 hL p e s m args below meth c H locs ls F hR hS hl => lv_sipush F.1 F.2.1 hd hv (k.2 b1 b2 hL p e s m args below meth c H locs ls F hR hS hl)⟩
theorem ax_lconst {n : Fin 2} (v : Int64) (hd : decode mi.2.1 pc = .ok (.lconst n, 1)) (hv : Int64.ofNat (n : Nat) = v) (k : AW l E mi R B Qf (pc + 1) L (.long v :: st) h) : AW l E mi R B Qf pc L (st) h :=
  ⟨k.1, fun b1 b2 hL p e s m args below meth c H locs ls F hR hS hl => lv_lconst F.1 F.2.1 hd hv (k.2 b1 b2 hL p e s m args below meth c H locs ls F hR hS hl)⟩
theorem ax_null  (hd : decode mi.2.1 pc = .ok (.aconst_null, 1))  (k : AW l E mi R B Qf (pc + 1) L (va_rf none :: st) h) : AW l E mi R B Qf pc L (st) h :=
  ⟨k.1, fun b1 b2 hL p e s m args below meth c H locs ls F hR hS hl => lv_null F.1 F.2.1 hd (k.2 b1 b2 hL p e s m args below meth c H locs ls F hR hS hl)⟩
theorem ax_iload_n {j : Fin 4} {i : Nat} {x : Int32} (hd : decode mi.2.1 pc = .ok (.iload_n j, 1)) (hi : (j : Nat) = i) (hx : L[i]? = some (some (.int x))) (k : AW l E mi R B Qf (pc + 1) L (.int x :: st) h) : AW l E mi R B Qf pc L (st) h :=
  ⟨k.1, fun b1 b2 hL p e s m args below meth c H locs ls F hR hS hl => lv_iload_n F.1 F.2.1 hd hi (hl.2.2 i _ hx) (k.2 b1 b2 hL p e s m args below meth c H locs ls F hR hS hl)⟩
theorem ax_iload {i : Nat} {x : Int32} (hd : decode mi.2.1 pc = .ok (.iload i, 2)) (hx : L[i]? = some (some (.int x))) (k : AW l E mi R B Qf (pc + 2) L (.int x :: st) h) : AW l E mi R B Qf pc L (st) h :=
  ⟨k.1, fun b1 b2 hL p e s m args below meth c H locs ls F hR hS hl => lv_iload F.1 F.2.1 hd (hl.2.2 i _ hx) (k.2 b1 b2 hL p e s m args below meth c H locs ls F hR hS hl)⟩
theorem ax_lload_n {j : Fin 4} {i : Nat} {x : Int64} (hd : decode mi.2.1 pc = .ok (.lload_n j, 1)) (hi : (j : Nat) = i) (hx : L[i]? = some (some (.long x))) (k : AW l E mi R B Qf (pc + 1) L (.long x :: st) h) : AW l E mi R B Qf pc L (st) h :=
  ⟨k.1, fun b1 b2 hL p e s m args below meth c H locs ls F hR hS hl => lv_lload_n F.1 F.2.1 hd hi (hl.2.2 i _ hx) (k.2 b1 b2 hL p e s m args below meth c H locs ls F hR hS hl)⟩
theorem ax_lload {i : Nat} {x : Int64} (hd : decode mi.2.1 pc = .ok (.lload i, 2)) (hx : L[i]? = some (some (.long x))) (k : AW l E mi R B Qf (pc + 2) L (.long x :: st) h) : AW l E mi R B Qf pc L (st) h :=
  ⟨k.1, fun b1 b2 hL p e s m args below meth c H locs ls F hR hS hl => lv_lload F.1 F.2.1 hd (hl.2.2 i _ hx) (k.2 b1 b2 hL p e s m args below meth c H locs ls F hR hS hl)⟩
theorem ax_aload_n {j : Fin 4} {i : Nat} (r : Option Nat) (hd : decode mi.2.1 pc = .ok (.aload_n j, 1)) (hi : (j : Nat) = i) (hx : L[i]? = some (some (va_rf r))) (k : AW l E mi R B Qf (pc + 1) L (va_rf r :: st) h) : AW l E mi R B Qf pc L st h := by
  refine ⟨k.1, fun b1 b2 hL p e s m args below meth c H locs ls F hR hS hl => ?_⟩
  have hx2 := hl.2.2 i _ hx
  have k2 := (k.2 b1 b2 hL p e s m args below meth c H locs ls F hR hS hl)
  cases r with
  | none => exact lv_aload_nN F.1 F.2.1 hd hi hx2 k2
  | some a => exact lv_aload_n F.1 F.2.1 hd hi hx2 k2
theorem ax_aload {i : Nat} (r : Option Nat) (hd : decode mi.2.1 pc = .ok (.aload i, 2)) (hx : L[i]? = some (some (va_rf r))) (k : AW l E mi R B Qf (pc + 2) L (va_rf r :: st) h) : AW l E mi R B Qf pc L st h := by
  refine ⟨k.1, fun b1 b2 hL p e s m args below meth c H locs ls F hR hS hl => ?_⟩
  have hx2 := hl.2.2 i _ hx
  have k2 := (k.2 b1 b2 hL p e s m args below meth c H locs ls F hR hS hl)
  cases r with
  | none => exact lv_aloadN F.1 F.2.1 hd hx2 k2
  | some a => exact lv_aload F.1 F.2.1 hd hx2 k2
theorem ax_istore_n {j : Fin 4} {i : Nat} {x : Int32} (L' : List (Option Value)) (hd : decode mi.2.1 pc = .ok (.istore_n j, 1)) (hi : (j : Nat) = i) (hn : i < L.length) (hc : i = 0 ∨ ∀ w, L[i - 1]? = some (some w) → w.category = 1) (hL' : L.set i (some (.int x)) = L') (k : AW l E mi R B Qf (pc + 1) L' st h) : AW l E mi R B Qf pc L (.int x :: st) h := by
  subst hL'
  exact ⟨k.1, fun b1 b2 hL p e s m args below meth c H locs ls F hR hS hl => lv_istore_n F.1 F.2.1 hd hi hl.has hn rfl (fun ls' h' => k.2 b1 b2 (by rw [List.length_set]; exact hL) p e s m args below meth c H locs ls' F hR hS (LH.st1 (v := .int x) h' hc))⟩
theorem ax_istore {i : Nat} {x : Int32} (L' : List (Option Value)) (hd : decode mi.2.1 pc = .ok (.istore i, 2)) (hn : i < L.length) (hc : i = 0 ∨ ∀ w, L[i - 1]? = some (some w) → w.category = 1) (hL' : L.set i (some (.int x)) = L') (k : AW l E mi R B Qf (pc + 2) L' st h) : AW l E mi R B Qf pc L (.int x :: st) h := by
  subst hL'
  exact ⟨k.1, fun b1 b2 hL p e s m args below meth c H locs ls F hR hS hl => lv_istore F.1 F.2.1 hd hl.has hn rfl (fun ls' h' => k.2 b1 b2 (by rw [List.length_set]; exact hL) p e s m args below meth c H locs ls' F hR hS (LH.st1 (v := .int x) h' hc))⟩
theorem ax_lstore_n {j : Fin 4} {i : Nat} {x : Int64} (L' : List (Option Value)) (hd : decode mi.2.1 pc = .ok (.lstore_n j, 1)) (hi : (j : Nat) = i) (hn : i + 1 < L.length) (hc : i = 0 ∨ ∀ w, L[i - 1]? = some (some w) → w.category = 1) (hL' : (L.set (i + 1) none).set i (some (.long x)) = L') (k : AW l E mi R B Qf (pc + 1) L' st h) : AW l E mi R B Qf pc L (.long x :: st) h := by
  subst hL'
  exact ⟨k.1, fun b1 b2 hL p e s m args below meth c H locs ls F hR hS hl => lv_lstore_n F.1 F.2.1 hd hi hl.has hn rfl (fun ls' h' => k.2 b1 b2 (by rw [List.length_set, List.length_set]; exact hL) p e s m args below meth c H locs ls' F hR hS (LH.st2 (v := .long x) h' hc))⟩
theorem ax_lstore {i : Nat} {x : Int64} (L' : List (Option Value)) (hd : decode mi.2.1 pc = .ok (.lstore i, 2)) (hn : i + 1 < L.length) (hc : i = 0 ∨ ∀ w, L[i - 1]? = some (some w) → w.category = 1) (hL' : (L.set (i + 1) none).set i (some (.long x)) = L') (k : AW l E mi R B Qf (pc + 2) L' st h) : AW l E mi R B Qf pc L (.long x :: st) h := by
  subst hL'
  exact ⟨k.1, fun b1 b2 hL p e s m args below meth c H locs ls F hR hS hl => lv_lstore F.1 F.2.1 hd hl.has hn rfl (fun ls' h' => k.2 b1 b2 (by rw [List.length_set, List.length_set]; exact hL) p e s m args below meth c H locs ls' F hR hS (LH.st2 (v := .long x) h' hc))⟩
theorem ax_astore_n {j : Fin 4} {i : Nat} {r : Option Nat} (L' : List (Option Value)) (hd : decode mi.2.1 pc = .ok (.astore_n j, 1)) (hi : (j : Nat) = i) (hn : i < L.length) (hc : i = 0 ∨ ∀ w, L[i - 1]? = some (some w) → w.category = 1) (hL' : L.set i (some (va_rf r)) = L') (k : AW l E mi R B Qf (pc + 1) L' st h) : AW l E mi R B Qf pc L (va_rf r :: st) h := by
  subst hL'
  refine ⟨k.1, fun b1 b2 hL p e s m args below meth c H locs ls F hR hS hl => ?_⟩
  cases r with
  | none => exact lv_astore_nN F.1 F.2.1 hd hi hl.has hn rfl (fun ls' h' => k.2 b1 b2 (by rw [List.length_set]; exact hL) p e s m args below meth c H locs ls' F hR hS (LH.st1 (v := .null) h' hc))
  | some a => exact lv_astore_n F.1 F.2.1 hd hi hl.has hn rfl (fun ls' h' => k.2 b1 b2 (by rw [List.length_set]; exact hL) p e s m args below meth c H locs ls' F hR hS (LH.st1 (v := .ref a) h' hc))
theorem ax_astore {i : Nat} {r : Option Nat} (L' : List (Option Value)) (hd : decode mi.2.1 pc = .ok (.astore i, 2)) (hn : i < L.length) (hc : i = 0 ∨ ∀ w, L[i - 1]? = some (some w) → w.category = 1) (hL' : L.set i (some (va_rf r)) = L') (k : AW l E mi R B Qf (pc + 2) L' st h) : AW l E mi R B Qf pc L (va_rf r :: st) h := by
  subst hL'
  refine ⟨k.1, fun b1 b2 hL p e s m args below meth c H locs ls F hR hS hl => ?_⟩
  cases r with
  | none => exact lv_astoreN F.1 F.2.1 hd hl.has hn rfl (fun ls' h' => k.2 b1 b2 (by rw [List.length_set]; exact hL) p e s m args below meth c H locs ls' F hR hS (LH.st1 (v := .null) h' hc))
  | some a => exact lv_astore F.1 F.2.1 hd hl.has hn rfl (fun ls' h' => k.2 b1 b2 (by rw [List.length_set]; exact hL) p e s m args below meth c H locs ls' F hR hS (LH.st1 (v := .ref a) h' hc))
theorem ax_iinc {i : Nat} {n : Int} {x : Int32} (v : Int32) (L' : List (Option Value)) (hd : decode mi.2.1 pc = .ok (.iinc i n, 3)) (hx : L[i]? = some (some (.int x))) (hv : x + Int32.ofInt n = v) (hc : i = 0 ∨ ∀ w, L[i - 1]? = some (some w) → w.category = 1) (hL' : L.set i (some (.int v)) = L') (k : AW l E mi R B Qf (pc + 3) L' st h) : AW l E mi R B Qf pc L st h := by
  subst hL'
  refine ⟨k.1, fun b1 b2 hL p e s m args below meth c H locs ls F hR hS hl => ?_⟩
  obtain ⟨kq, hk⟩ := List.getElem?_of_mem (lpairs_mem (E := E) hx)
  exact lv_iinc F.1 F.2.1 hd hl.has (k := kq) hk hv (List.getElem?_eq_some_iff.mp hx).1 rfl (fun ls' h' => k.2 b1 b2 (by rw [List.length_set]; exact hL) p e s m args below meth c H locs ls' F hR hS (LH.st1 (v := .int v) h' hc))
theorem ax_iadd {x y : Int32} (hd : decode mi.2.1 pc = .ok (.iadd, 1))  (k : AW l E mi R B Qf (pc + 1) L (.int (x + y) :: st) h) : AW l E mi R B Qf pc L (.int y :: .int x :: st) h :=
  ⟨k.1, fun b1 b2 hL p e s m args below meth c H locs ls F hR hS hl => lv_iadd F.1 F.2.1 hd (k.2 b1 b2 hL p e s m args below meth c H locs ls F hR hS hl)⟩
theorem ax_isub {x y : Int32} (hd : decode mi.2.1 pc = .ok (.isub, 1))  (k : AW l E mi R B Qf (pc + 1) L (.int (x - y) :: st) h) : AW l E mi R B Qf pc L (.int y :: .int x :: st) h :=
  ⟨k.1, fun b1 b2 hL p e s m args below meth c H locs ls F hR hS hl => lv_isub F.1 F.2.1 hd (k.2 b1 b2 hL p e s m args below meth c H locs ls F hR hS hl)⟩
theorem ax_imul {x y : Int32} (hd : decode mi.2.1 pc = .ok (.imul, 1))  (k : AW l E mi R B Qf (pc + 1) L (.int (x * y) :: st) h) : AW l E mi R B Qf pc L (.int y :: .int x :: st) h :=
  ⟨k.1, fun b1 b2 hL p e s m args below meth c H locs ls F hR hS hl => lv_imul F.1 F.2.1 hd (k.2 b1 b2 hL p e s m args below meth c H locs ls F hR hS hl)⟩
theorem ax_iand {x y : Int32} (hd : decode mi.2.1 pc = .ok (.iand, 1))  (k : AW l E mi R B Qf (pc + 1) L (.int (x &&& y) :: st) h) : AW l E mi R B Qf pc L (.int y :: .int x :: st) h :=
  ⟨k.1, fun b1 b2 hL p e s m args below meth c H locs ls F hR hS hl => lv_iand F.1 F.2.1 hd (k.2 b1 b2 hL p e s m args below meth c H locs ls F hR hS hl)⟩
theorem ax_ior {x y : Int32} (hd : decode mi.2.1 pc = .ok (.ior, 1))  (k : AW l E mi R B Qf (pc + 1) L (.int (x ||| y) :: st) h) : AW l E mi R B Qf pc L (.int y :: .int x :: st) h :=
  ⟨k.1, fun b1 b2 hL p e s m args below meth c H locs ls F hR hS hl => lv_ior F.1 F.2.1 hd (k.2 b1 b2 hL p e s m args below meth c H locs ls F hR hS hl)⟩
theorem ax_ixor {x y : Int32} (hd : decode mi.2.1 pc = .ok (.ixor, 1))  (k : AW l E mi R B Qf (pc + 1) L (.int (x ^^^ y) :: st) h) : AW l E mi R B Qf pc L (.int y :: .int x :: st) h :=
  ⟨k.1, fun b1 b2 hL p e s m args below meth c H locs ls F hR hS hl => lv_ixor F.1 F.2.1 hd (k.2 b1 b2 hL p e s m args below meth c H locs ls F hR hS hl)⟩
theorem ax_ishl {x y : Int32} (hd : decode mi.2.1 pc = .ok (.ishl, 1))  (k : AW l E mi R B Qf (pc + 1) L (.int (x <<< (y &&& 31)) :: st) h) : AW l E mi R B Qf pc L (.int y :: .int x :: st) h :=
  ⟨k.1, fun b1 b2 hL p e s m args below meth c H locs ls F hR hS hl => lv_ishl F.1 F.2.1 hd (k.2 b1 b2 hL p e s m args below meth c H locs ls F hR hS hl)⟩
theorem ax_ishr {x y : Int32} (hd : decode mi.2.1 pc = .ok (.ishr, 1))  (k : AW l E mi R B Qf (pc + 1) L (.int (x >>> (y &&& 31)) :: st) h) : AW l E mi R B Qf pc L (.int y :: .int x :: st) h :=
  ⟨k.1, fun b1 b2 hL p e s m args below meth c H locs ls F hR hS hl => lv_ishr F.1 F.2.1 hd (k.2 b1 b2 hL p e s m args below meth c H locs ls F hR hS hl)⟩
theorem ax_ladd {x y : Int64} (hd : decode mi.2.1 pc = .ok (.ladd, 1))  (k : AW l E mi R B Qf (pc + 1) L (.long (x + y) :: st) h) : AW l E mi R B Qf pc L (.long y :: .long x :: st) h :=
  ⟨k.1, fun b1 b2 hL p e s m args below meth c H locs ls F hR hS hl => lv_ladd F.1 F.2.1 hd (k.2 b1 b2 hL p e s m args below meth c H locs ls F hR hS hl)⟩
theorem ax_lsub {x y : Int64} (hd : decode mi.2.1 pc = .ok (.lsub, 1))  (k : AW l E mi R B Qf (pc + 1) L (.long (x - y) :: st) h) : AW l E mi R B Qf pc L (.long y :: .long x :: st) h :=
  ⟨k.1, fun b1 b2 hL p e s m args below meth c H locs ls F hR hS hl => lv_lsub F.1 F.2.1 hd (k.2 b1 b2 hL p e s m args below meth c H locs ls F hR hS hl)⟩
theorem ax_lmul {x y : Int64} (hd : decode mi.2.1 pc = .ok (.lmul, 1))  (k : AW l E mi R B Qf (pc + 1) L (.long (x * y) :: st) h) : AW l E mi R B Qf pc L (.long y :: .long x :: st) h :=
  ⟨k.1, fun b1 b2 hL p e s m args below meth c H locs ls F hR hS hl => lv_lmul F.1 F.2.1 hd (k.2 b1 b2 hL p e s m args below meth c H locs ls F hR hS hl)⟩
theorem ax_land {x y : Int64} (hd : decode mi.2.1 pc = .ok (.land, 1))  (k : AW l E mi R B Qf (pc + 1) L (.long (x &&& y) :: st) h) : AW l E mi R B Qf pc L (.long y :: .long x :: st) h :=
  ⟨k.1, fun b1 b2 hL p e s m args below meth c H locs ls F hR hS hl => lv_land F.1 F.2.1 hd (k.2 b1 b2 hL p e s m args below meth c H locs ls F hR hS hl)⟩
theorem ax_lor {x y : Int64} (hd : decode mi.2.1 pc = .ok (.lor, 1))  (k : AW l E mi R B Qf (pc + 1) L (.long (x ||| y) :: st) h) : AW l E mi R B Qf pc L (.long y :: .long x :: st) h :=
  ⟨k.1, fun b1 b2 hL p e s m args below meth c H locs ls F hR hS hl => lv_lor F.1 F.2.1 hd (k.2 b1 b2 hL p e s m args below meth c H locs ls F hR hS hl)⟩
theorem ax_lxor {x y : Int64} (hd : decode mi.2.1 pc = .ok (.lxor, 1))  (k : AW l E mi R B Qf (pc + 1) L (.long (x ^^^ y) :: st) h) : AW l E mi R B Qf pc L (.long y :: .long x :: st) h :=
  ⟨k.1, fun b1 b2 hL p e s m args below meth c H locs ls F hR hS hl => lv_lxor F.1 F.2.1 hd (k.2 b1 b2 hL p e s m args below meth c H locs ls F hR hS hl)⟩
theorem ax_idiv {x y : Int32} (hd : decode mi.2.1 pc = .ok (.idiv, 1)) (hne : ¬ y = 0) (k : AW l E mi R B Qf (pc + 1) L (.int (x / y) :: st) h) : AW l E mi R B Qf pc L (.int y :: .int x :: st) h :=
  ⟨k.1, fun b1 b2 hL p e s m args below meth c H locs ls F hR hS hl => lv_idiv F.1 F.2.1 hd hne (k.2 b1 b2 hL p e s m args below meth c H locs ls F hR hS hl)⟩
theorem ax_irem {x y : Int32} (hd : decode mi.2.1 pc = .ok (.irem, 1)) (hne : ¬ y = 0) (k : AW l E mi R B Qf (pc + 1) L (.int (x - x / y * y) :: st) h) : AW l E mi R B Qf pc L (.int y :: .int x :: st) h :=
  ⟨k.1, fun b1 b2 hL p e s m args below meth c H locs ls F hR hS hl => lv_irem F.1 F.2.1 hd hne (k.2 b1 b2 hL p e s m args below meth c H locs ls F hR hS hl)⟩
theorem ax_ldiv {x y : Int64} (hd : decode mi.2.1 pc = .ok (.ldiv, 1)) (hne : ¬ y = 0) (k : AW l E mi R B Qf (pc + 1) L (.long (x / y) :: st) h) : AW l E mi R B Qf pc L (.long y :: .long x :: st) h :=
  ⟨k.1, fun b1 b2 hL p e s m args below meth c H locs ls F hR hS hl => lv_ldiv F.1 F.2.1 hd hne (k.2 b1 b2 hL p e s m args below meth c H locs ls F hR hS hl)⟩
theorem ax_lrem {x y : Int64} (hd : decode mi.2.1 pc = .ok (.lrem, 1)) (hne : ¬ y = 0) (k : AW l E mi R B Qf (pc + 1) L (.long (x - x / y * y) :: st) h) : AW l E mi R B Qf pc L (.long y :: .long x :: st) h :=
  ⟨k.1, fun b1 b2 hL p e s m args below meth c H locs ls F hR hS hl => lv_lrem F.1 F.2.1 hd hne (k.2 b1 b2 hL p e s m args below meth c H locs ls F hR hS hl)⟩
theorem ax_ineg {x : Int32} (hd : decode mi.2.1 pc = .ok (.ineg, 1))  (k : AW l E mi R B Qf (pc + 1) L (.int (-x) :: st) h) : AW l E mi R B Qf pc L (.int x :: st) h :=
  ⟨k.1, fun b1 b2 hL p e s m args below meth c H locs ls F hR hS hl => lv_ineg F.1 F.2.1 hd (k.2 b1 b2 hL p e s m args below meth c H locs ls F hR hS hl)⟩
theorem ax_lneg {x : Int64} (hd : decode mi.2.1 pc = .ok (.lneg, 1))  (k : AW l E mi R B Qf (pc + 1) L (.long (-x) :: st) h) : AW l E mi R B Qf pc L (.long x :: st) h :=
  ⟨k.1, fun b1 b2 hL p e s m args below meth c H locs ls F hR hS hl => lv_lneg F.1 F.2.1 hd (k.2 b1 b2 hL p e s m args below meth c H locs ls F hR hS hl)⟩
def xushr (x y : Int32) : Int32 := (x.toUInt32 >>> (y.toUInt32 &&& Int32.toUInt32 31)).toInt32
def xlushr (x : Int64) (y : Int32) : Int64 := (x.toUInt64 >>> (y.toInt64.toUInt64 &&& Int64.toUInt64 63)).toInt64
def xlshl (x : Int64) (y : Int32) : Int64 := x <<< (y.toInt64 &&& 63)
def xlshr (x : Int64) (y : Int32) : Int64 := x >>> (y.toInt64 &&& 63)
theorem ax_iushr {x y : Int32} (hd : decode mi.2.1 pc = .ok (.iushr, 1))  (k : AW l E mi R B Qf (pc + 1) L (.int (xushr x y) :: st) h) : AW l E mi R B Qf pc L (.int y :: .int x :: st) h :=
  ⟨k.1, fun b1 b2 hL p e s m args below meth c H locs ls F hR hS hl => lv_iushr F.1 F.2.1 hd rfl (k.2 b1 b2 hL p e s m args below meth c H locs ls F hR hS hl)⟩
theorem ax_lushr {x : Int64} {y : Int32} (hd : decode mi.2.1 pc = .ok (.lushr, 1))  (k : AW l E mi R B Qf (pc + 1) L (.long (xlushr x y) :: st) h) : AW l E mi R B Qf pc L (.int y :: .long x :: st) h :=
  ⟨k.1, fun b1 b2 hL p e s m args below meth c H locs ls F hR hS hl => lv_lushr F.1 F.2.1 hd rfl (k.2 b1 b2 hL p e s m args below meth c H locs ls F hR hS hl)⟩
theorem ax_lshl {x : Int64} {y : Int32} (hd : decode mi.2.1 pc = .ok (.lshl, 1))  (k : AW l E mi R B Qf (pc + 1) L (.long (xlshl x y) :: st) h) : AW l E mi R B Qf pc L (.int y :: .long x :: st) h :=
  ⟨k.1, fun b1 b2 hL p e s m args below meth c H locs ls F hR hS hl => lv_lshl F.1 F.2.1 hd rfl (k.2 b1 b2 hL p e s m args below meth c H locs ls F hR hS hl)⟩
theorem ax_lshr {x : Int64} {y : Int32} (hd : decode mi.2.1 pc = .ok (.lshr, 1))  (k : AW l E mi R B Qf (pc + 1) L (.long (xlshr x y) :: st) h) : AW l E mi R B Qf pc L (.int y :: .long x :: st) h :=
  ⟨k.1, fun b1 b2 hL p e s m args below meth c H locs ls F hR hS hl => lv_lshr F.1 F.2.1 hd rfl (k.2 b1 b2 hL p e s m args below meth c H locs ls F hR hS hl)⟩
theorem ax_i2l {x : Int32} (hd : decode mi.2.1 pc = .ok (.i2l, 1))  (k : AW l E mi R B Qf (pc + 1) L (.long x.toInt64 :: st) h) : AW l E mi R B Qf pc L (.int x :: st) h :=
  ⟨k.1, fun b1 b2 hL p e s m args below meth c H locs ls F hR hS hl => lv_i2l F.1 F.2.1 hd rfl (k.2 b1 b2 hL p e s m args below meth c H locs ls F hR hS hl)⟩
theorem ax_l2i {x : Int64} (hd : decode mi.2.1 pc = .ok (.l2i, 1))  (k : AW l E mi R B Qf (pc + 1) L (.int x.toInt32 :: st) h) : AW l E mi R B Qf pc L (.long x :: st) h :=
  ⟨k.1, fun b1 b2 hL p e s m args below meth c H locs ls F hR hS hl => lv_l2i F.1 F.2.1 hd rfl (k.2 b1 b2 hL p e s m args below meth c H locs ls F hR hS hl)⟩
theorem ax_i2b {x : Int32} (hd : decode mi.2.1 pc = .ok (.i2b, 1))  (k : AW l E mi R B Qf (pc + 1) L (.int x.toInt8.toInt32 :: st) h) : AW l E mi R B Qf pc L (.int x :: st) h :=
  ⟨k.1, fun b1 b2 hL p e s m args below meth c H locs ls F hR hS hl => lv_i2b F.1 F.2.1 hd rfl (k.2 b1 b2 hL p e s m args below meth c H locs ls F hR hS hl)⟩
theorem ax_lcmp {x y : Int64} (hd : decode mi.2.1 pc = .ok (.lcmp, 1))  (k : AW l E mi R B Qf (pc + 1) L (.int (lg_cmp x y) :: st) h) : AW l E mi R B Qf pc L (.long y :: .long x :: st) h :=
  ⟨k.1, fun b1 b2 hL p e s m args below meth c H locs ls F hR hS hl => W.lcmp F.1 F.2.1 hd (k.2 b1 b2 hL p e s m args below meth c H locs ls F hR hS hl)⟩
theorem ax_dup {v : Value} (hd : decode mi.2.1 pc = .ok (.dup, 1)) (hv : v.category = 1) (k : AW l E mi R B Qf (pc + 1) L (v :: v :: st) h) : AW l E mi R B Qf pc L (v :: st) h :=
  ⟨k.1, fun b1 b2 hL p e s m args below meth c H locs ls F hR hS hl => lv_dup F.1 F.2.1 hd (by rw [vr_cat]; exact hv) (k.2 b1 b2 hL p e s m args below meth c H locs ls F hR hS hl)⟩
theorem ax_pop {v : Value} (hd : decode mi.2.1 pc = .ok (.pop, 1)) (hv : v.category = 1) (k : AW l E mi R B Qf (pc + 1) L (st) h) : AW l E mi R B Qf pc L (v :: st) h :=
  ⟨k.1, fun b1 b2 hL p e s m args below meth c H locs ls F hR hS hl => lv_pop F.1 F.2.1 hd (by rw [vr_cat]; exact hv) (k.2 b1 b2 hL p e s m args below meth c H locs ls F hR hS hl)⟩
theorem ax_dup2 {v w : Value} (hd : decode mi.2.1 pc = .ok (.dup2, 1)) (hv : v.category = 1) (hw : w.category = 1) (k : AW l E mi R B Qf (pc + 1) L (v :: w :: v :: w :: st) h) : AW l E mi R B Qf pc L (v :: w :: st) h :=
  ⟨k.1, fun b1 b2 hL p e s m args below meth c H locs ls F hR hS hl => lv_dup2_11 F.1 F.2.1 hd (by rw [vr_cat]; exact hv) (by rw [vr_cat]; exact hw) (k.2 b1 b2 hL p e s m args below meth c H locs ls F hR hS hl)⟩
theorem ax_goto {off : Int} (tgt : Nat) (hd : decode mi.2.1 pc = .ok (.goto off, 3)) (ht : (pc : Int) + off = (tgt : Int)) (k : AW l E mi R B Qf tgt L st h) : AW l E mi R B Qf pc L st h :=
  ⟨k.1, fun b1 b2 hL p e s m args below meth c H locs ls F hR hS hl => lv_goto F.1 F.2.1 hd ht (k.2 b1 b2 hL p e s m args below meth c H locs ls F hR hS hl)⟩
theorem i32_le {x y : Int32} (h : ¬ x < y) : y ≤ x := Int32.not_lt.mp h
theorem i32_nle {x y : Int32} (h : x < y) : ¬ y ≤ x := Int32.not_le.mpr h
theorem ax_icmp_eqT {x y : Int32} {off : Int} (tgt : Nat) (hd : decode mi.2.1 pc = .ok (.if_icmp .eq off, 3)) (ht : (pc : Int) + off = (tgt : Int)) (hc : x = y) (k : AW l E mi R B Qf tgt L st h) : AW l E mi R B Qf pc L (.int y :: .int x :: st) h :=
  ⟨k.1, fun b1 b2 hL p e s m args below meth c H locs ls F hR hS hl => lv_icmp_eq F.1 F.2.1 hd ht (fun _ => (k.2 b1 b2 hL p e s m args below meth c H locs ls F hR hS hl)) (fun q => absurd (hc) q)⟩
theorem ax_icmp_eqF {x y : Int32} {off : Int} (tgt : Nat) (hd : decode mi.2.1 pc = .ok (.if_icmp .eq off, 3)) (ht : (pc : Int) + off = (tgt : Int)) (hc : ¬ x = y) (k : AW l E mi R B Qf (pc + 3) L st h) : AW l E mi R B Qf pc L (.int y :: .int x :: st) h :=
  ⟨k.1, fun b1 b2 hL p e s m args below meth c H locs ls F hR hS hl => lv_icmp_eq F.1 F.2.1 hd ht (fun q => absurd q (hc)) (fun _ => (k.2 b1 b2 hL p e s m args below meth c H locs ls F hR hS hl))⟩
theorem ax_if_eqT {x : Int32} {off : Int} (tgt : Nat) (hd : decode mi.2.1 pc = .ok (.ifCond .eq off, 3)) (ht : (pc : Int) + off = (tgt : Int)) (hc : x = 0) (k : AW l E mi R B Qf tgt L st h) : AW l E mi R B Qf pc L (.int x :: st) h :=
  ⟨k.1, fun b1 b2 hL p e s m args below meth c H locs ls F hR hS hl => lv_if_eq F.1 F.2.1 hd ht (fun _ => (k.2 b1 b2 hL p e s m args below meth c H locs ls F hR hS hl)) (fun q => absurd (hc) q)⟩
theorem ax_if_eqF {x : Int32} {off : Int} (tgt : Nat) (hd : decode mi.2.1 pc = .ok (.ifCond .eq off, 3)) (ht : (pc : Int) + off = (tgt : Int)) (hc : ¬ x = 0) (k : AW l E mi R B Qf (pc + 3) L st h) : AW l E mi R B Qf pc L (.int x :: st) h :=
  ⟨k.1, fun b1 b2 hL p e s m args below meth c H locs ls F hR hS hl => lv_if_eq F.1 F.2.1 hd ht (fun q => absurd q (hc)) (fun _ => (k.2 b1 b2 hL p e s m args below meth c H locs ls F hR hS hl))⟩
theorem ax_icmp_neT {x y : Int32} {off : Int} (tgt : Nat) (hd : decode mi.2.1 pc = .ok (.if_icmp .ne off, 3)) (ht : (pc : Int) + off = (tgt : Int)) (hc : ¬ x = y) (k : AW l E mi R B Qf tgt L st h) : AW l E mi R B Qf pc L (.int y :: .int x :: st) h :=
  ⟨k.1, fun b1 b2 hL p e s m args below meth c H locs ls F hR hS hl => lv_icmp_ne F.1 F.2.1 hd ht (fun _ => (k.2 b1 b2 hL p e s m args below meth c H locs ls F hR hS hl)) (fun q => absurd q hc)⟩
theorem ax_icmp_neF {x y : Int32} {off : Int} (tgt : Nat) (hd : decode mi.2.1 pc = .ok (.if_icmp .ne off, 3)) (ht : (pc : Int) + off = (tgt : Int)) (hc : x = y) (k : AW l E mi R B Qf (pc + 3) L st h) : AW l E mi R B Qf pc L (.int y :: .int x :: st) h :=
  ⟨k.1, fun b1 b2 hL p e s m args below meth c H locs ls F hR hS hl => lv_icmp_ne F.1 F.2.1 hd ht (fun q => absurd q ((fun z => z hc))) (fun _ => (k.2 b1 b2 hL p e s m args below meth c H locs ls F hR hS hl))⟩
theorem ax_if_neT {x : Int32} {off : Int} (tgt : Nat) (hd : decode mi.2.1 pc = .ok (.ifCond .ne off, 3)) (ht : (pc : Int) + off = (tgt : Int)) (hc : ¬ x = 0) (k : AW l E mi R B Qf tgt L st h) : AW l E mi R B Qf pc L (.int x :: st) h :=
  ⟨k.1, fun b1 b2 hL p e s m args below meth c H locs ls F hR hS hl => lv_if_ne F.1 F.2.1 hd ht (fun _ => (k.2 b1 b2 hL p e s m args below meth c H locs ls F hR hS hl)) (fun q => absurd q hc)⟩
theorem ax_if_neF {x : Int32} {off : Int} (tgt : Nat) (hd : decode mi.2.1 pc = .ok (.ifCond .ne off, 3)) (ht : (pc : Int) + off = (tgt : Int)) (hc : x = 0) (k : AW l E mi R B Qf (pc + 3) L st h) : AW l E mi R B Qf pc L (.int x :: st) h :=
  ⟨k.1, fun b1 b2 hL p e s m args below meth c H locs ls F hR hS hl => lv_if_ne F.1 F.2.1 hd ht (fun q => absurd q ((fun z => z hc))) (fun _ => (k.2 b1 b2 hL p e s m args below meth c H locs ls F hR hS hl))⟩
theorem ax_icmp_ltT {x y : Int32} {off : Int} (tgt : Nat) (hd : decode mi.2.1 pc = .ok (.if_icmp .lt off, 3)) (ht : (pc : Int) + off = (tgt : Int)) (hc : x < y) (k : AW l E mi R B Qf tgt L st h) : AW l E mi R B Qf pc L (.int y :: .int x :: st) h :=
  ⟨k.1, fun b1 b2 hL p e s m args below meth c H locs ls F hR hS hl => lv_icmp_lt F.1 F.2.1 hd ht (fun _ => (k.2 b1 b2 hL p e s m args below meth c H locs ls F hR hS hl)) (fun q => absurd (hc) q)⟩
theorem ax_icmp_ltF {x y : Int32} {off : Int} (tgt : Nat) (hd : decode mi.2.1 pc = .ok (.if_icmp .lt off, 3)) (ht : (pc : Int) + off = (tgt : Int)) (hc : ¬ x < y) (k : AW l E mi R B Qf (pc + 3) L st h) : AW l E mi R B Qf pc L (.int y :: .int x :: st) h :=
  ⟨k.1, fun b1 b2 hL p e s m args below meth c H locs ls F hR hS hl => lv_icmp_lt F.1 F.2.1 hd ht (fun q => absurd q (hc)) (fun _ => (k.2 b1 b2 hL p e s m args below meth c H locs ls F hR hS hl))⟩
theorem ax_if_ltT {x : Int32} {off : Int} (tgt : Nat) (hd : decode mi.2.1 pc = .ok (.ifCond .lt off, 3)) (ht : (pc : Int) + off = (tgt : Int)) (hc : x < 0) (k : AW l E mi R B Qf tgt L st h) : AW l E mi R B Qf pc L (.int x :: st) h :=
  ⟨k.1, fun b1 b2 hL p e s m args below meth c H locs ls F hR hS hl => lv_if_lt F.1 F.2.1 hd ht (fun _ => (k.2 b1 b2 hL p e s m args below meth c H locs ls F hR hS hl)) (fun q => absurd (hc) q)⟩
theorem ax_if_ltF {x : Int32} {off : Int} (tgt : Nat) (hd : decode mi.2.1 pc = .ok (.ifCond .lt off, 3)) (ht : (pc : Int) + off = (tgt : Int)) (hc : ¬ x < 0) (k : AW l E mi R B Qf (pc + 3) L st h) : AW l E mi R B Qf pc L (.int x :: st) h :=
  ⟨k.1, fun b1 b2 hL p e s m args below meth c H locs ls F hR hS hl => lv_if_lt F.1 F.2.1 hd ht (fun q => absurd q (hc)) (fun _ => (k.2 b1 b2 hL p e s m args below meth c H locs ls F hR hS hl))⟩
theorem ax_icmp_geT {x y : Int32} {off : Int} (tgt : Nat) (hd : decode mi.2.1 pc = .ok (.if_icmp .ge off, 3)) (ht : (pc : Int) + off = (tgt : Int)) (hc : ¬ x < y) (k : AW l E mi R B Qf tgt L st h) : AW l E mi R B Qf pc L (.int y :: .int x :: st) h :=
  ⟨k.1, fun b1 b2 hL p e s m args below meth c H locs ls F hR hS hl => lv_icmp_ge F.1 F.2.1 hd ht (fun _ => (k.2 b1 b2 hL p e s m args below meth c H locs ls F hR hS hl)) (fun q => absurd (i32_le hc) q)⟩
theorem ax_icmp_geF {x y : Int32} {off : Int} (tgt : Nat) (hd : decode mi.2.1 pc = .ok (.if_icmp .ge off, 3)) (ht : (pc : Int) + off = (tgt : Int)) (hc : x < y) (k : AW l E mi R B Qf (pc + 3) L st h) : AW l E mi R B Qf pc L (.int y :: .int x :: st) h :=
  ⟨k.1, fun b1 b2 hL p e s m args below meth c H locs ls F hR hS hl => lv_icmp_ge F.1 F.2.1 hd ht (fun q => absurd q (i32_nle hc)) (fun _ => (k.2 b1 b2 hL p e s m args below meth c H locs ls F hR hS hl))⟩
theorem ax_if_geT {x : Int32} {off : Int} (tgt : Nat) (hd : decode mi.2.1 pc = .ok (.ifCond .ge off, 3)) (ht : (pc : Int) + off = (tgt : Int)) (hc : ¬ x < 0) (k : AW l E mi R B Qf tgt L st h) : AW l E mi R B Qf pc L (.int x :: st) h :=
  ⟨k.1, fun b1 b2 hL p e s m args below meth c H locs ls F hR hS hl => lv_if_ge F.1 F.2.1 hd ht (fun _ => (k.2 b1 b2 hL p e s m args below meth c H locs ls F hR hS hl)) (fun q => absurd (i32_le hc) q)⟩
theorem ax_if_geF {x : Int32} {off : Int} (tgt : Nat) (hd : decode mi.2.1 pc = .ok (.ifCond .ge off, 3)) (ht : (pc : Int) + off = (tgt : Int)) (hc : x < 0) (k : AW l E mi R B Qf (pc + 3) L st h) : AW l E mi R B Qf pc L (.int x :: st) h :=
  ⟨k.1, fun b1 b2 hL p e s m args below meth c H locs ls F hR hS hl => lv_if_ge F.1 F.2.1 hd ht (fun q => absurd q (i32_nle hc)) (fun _ => (k.2 b1 b2 hL p e s m args below meth c H locs ls F hR hS hl))⟩
theorem ax_icmp_gtT {x y : Int32} {off : Int} (tgt : Nat) (hd : decode mi.2.1 pc = .ok (.if_icmp .gt off, 3)) (ht : (pc : Int) + off = (tgt : Int)) (hc : y < x) (k : AW l E mi R B Qf tgt L st h) : AW l E mi R B Qf pc L (.int y :: .int x :: st) h :=
  ⟨k.1, fun b1 b2 hL p e s m args below meth c H locs ls F hR hS hl => lv_icmp_gt F.1 F.2.1 hd ht (fun _ => (k.2 b1 b2 hL p e s m args below meth c H locs ls F hR hS hl)) (fun q => absurd (hc) q)⟩
theorem ax_icmp_gtF {x y : Int32} {off : Int} (tgt : Nat) (hd : decode mi.2.1 pc = .ok (.if_icmp .gt off, 3)) (ht : (pc : Int) + off = (tgt : Int)) (hc : ¬ y < x) (k : AW l E mi R B Qf (pc + 3) L st h) : AW l E mi R B Qf pc L (.int y :: .int x :: st) h :=
  ⟨k.1, fun b1 b2 hL p e s m args below meth c H locs ls F hR hS hl => lv_icmp_gt F.1 F.2.1 hd ht (fun q => absurd q (hc)) (fun _ => (k.2 b1 b2 hL p e s m args below meth c H locs ls F hR hS hl))⟩
theorem ax_if_gtT {x : Int32} {off : Int} (tgt : Nat) (hd : decode mi.2.1 pc = .ok (.ifCond .gt off, 3)) (ht : (pc : Int) + off = (tgt : Int)) (hc : 0 < x) (k : AW l E mi R B Qf tgt L st h) : AW l E mi R B Qf pc L (.int x :: st) h :=
  ⟨k.1, fun b1 b2 hL p e s m args below meth c H locs ls F hR hS hl => lv_if_gt F.1 F.2.1 hd ht (fun _ => (k.2 b1 b2 hL p e s m args below meth c H locs ls F hR hS hl)) (fun q => absurd (hc) q)⟩
theorem ax_if_gtF {x : Int32} {off : Int} (tgt : Nat) (hd : decode mi.2.1 pc = .ok (.ifCond .gt off, 3)) (ht : (pc : Int) + off = (tgt : Int)) (hc : ¬ 0 < x) (k : AW l E mi R B Qf (pc + 3) L st h) : AW l E mi R B Qf pc L (.int x :: st) h :=
  ⟨k.1, fun b1 b2 hL p e s m args below meth c H locs ls F hR hS hl => lv_if_gt F.1 F.2.1 hd ht (fun q => absurd q (hc)) (fun _ => (k.2 b1 b2 hL p e s m args below meth c H locs ls F hR hS hl))⟩
theorem ax_icmp_leT {x y : Int32} {off : Int} (tgt : Nat) (hd : decode mi.2.1 pc = .ok (.if_icmp .le off, 3)) (ht : (pc : Int) + off = (tgt : Int)) (hc : ¬ y < x) (k : AW l E mi R B Qf tgt L st h) : AW l E mi R B Qf pc L (.int y :: .int x :: st) h :=
  ⟨k.1, fun b1 b2 hL p e s m args below meth c H locs ls F hR hS hl => lv_icmp_le F.1 F.2.1 hd ht (fun _ => (k.2 b1 b2 hL p e s m args below meth c H locs ls F hR hS hl)) (fun q => absurd (i32_le hc) q)⟩
theorem ax_icmp_leF {x y : Int32} {off : Int} (tgt : Nat) (hd : decode mi.2.1 pc = .ok (.if_icmp .le off, 3)) (ht : (pc : Int) + off = (tgt : Int)) (hc : y < x) (k : AW l E mi R B Qf (pc + 3) L st h) : AW l E mi R B Qf pc L (.int y :: .int x :: st) h :=
  ⟨k.1, fun b1 b2 hL p e s m args below meth c H locs ls F hR hS hl => lv_icmp_le F.1 F.2.1 hd ht (fun q => absurd q (i32_nle hc)) (fun _ => (k.2 b1 b2 hL p e s m args below meth c H locs ls F hR hS hl))⟩
theorem ax_if_leT {x : Int32} {off : Int} (tgt : Nat) (hd : decode mi.2.1 pc = .ok (.ifCond .le off, 3)) (ht : (pc : Int) + off = (tgt : Int)) (hc : ¬ 0 < x) (k : AW l E mi R B Qf tgt L st h) : AW l E mi R B Qf pc L (.int x :: st) h :=
  ⟨k.1, fun b1 b2 hL p e s m args below meth c H locs ls F hR hS hl => lv_if_le F.1 F.2.1 hd ht (fun _ => (k.2 b1 b2 hL p e s m args below meth c H locs ls F hR hS hl)) (fun q => absurd (i32_le hc) q)⟩
theorem ax_if_leF {x : Int32} {off : Int} (tgt : Nat) (hd : decode mi.2.1 pc = .ok (.ifCond .le off, 3)) (ht : (pc : Int) + off = (tgt : Int)) (hc : 0 < x) (k : AW l E mi R B Qf (pc + 3) L st h) : AW l E mi R B Qf pc L (.int x :: st) h :=
  ⟨k.1, fun b1 b2 hL p e s m args below meth c H locs ls F hR hS hl => lv_if_le F.1 F.2.1 hd ht (fun q => absurd q (i32_nle hc)) (fun _ => (k.2 b1 b2 hL p e s m args below meth c H locs ls F hR hS hl))⟩
theorem ax_ifnullT {off : Int} (tgt : Nat) (hd : decode mi.2.1 pc = .ok (.ifnull off, 3)) (ht : (pc : Int) + off = (tgt : Int)) (k : AW l E mi R B Qf tgt L st h) : AW l E mi R B Qf pc L (va_rf none :: st) h :=
  ⟨k.1, fun b1 b2 hL p e s m args below meth c H locs ls F hR hS hl => lv_ifnullN F.1 F.2.1 hd ht (k.2 b1 b2 hL p e s m args below meth c H locs ls F hR hS hl)⟩
theorem ax_ifnullF {off : Int} {a : Nat} (hd : decode mi.2.1 pc = .ok (.ifnull off, 3)) (k : AW l E mi R B Qf (pc + 3) L st h) : AW l E mi R B Qf pc L (va_rf (some a) :: st) h :=
  ⟨k.1, fun b1 b2 hL p e s m args below meth c H locs ls F hR hS hl => lv_ifnull F.1 F.2.1 hd (k.2 b1 b2 hL p e s m args below meth c H locs ls F hR hS hl)⟩
theorem ax_ifnonnullT {off : Int} {a : Nat} (tgt : Nat) (hd : decode mi.2.1 pc = .ok (.ifnonnull off, 3)) (ht : (pc : Int) + off = (tgt : Int)) (k : AW l E mi R B Qf tgt L st h) : AW l E mi R B Qf pc L (va_rf (some a) :: st) h :=
  ⟨k.1, fun b1 b2 hL p e s m args below meth c H locs ls F hR hS hl => lv_ifnonnull F.1 F.2.1 hd ht (k.2 b1 b2 hL p e s m args below meth c H locs ls F hR hS hl)⟩
theorem ax_ifnonnullF {off : Int} (hd : decode mi.2.1 pc = .ok (.ifnonnull off, 3)) (k : AW l E mi R B Qf (pc + 3) L st h) : AW l E mi R B Qf pc L (va_rf none :: st) h :=
  ⟨k.1, fun b1 b2 hL p e s m args below meth c H locs ls F hR hS hl => lv_ifnonnullN F.1 F.2.1 hd (k.2 b1 b2 hL p e s m args below meth c H locs ls F hR hS hl)⟩
/-- two references, each null or to something made: alike here just if alike in the machine -/
def rok (r : Option Nat) : Prop := ∀ a ∈ r, 4 ≤ a
theorem rok_map {E : EN} {r q : Option Nat} (hr : rok r) (hq : rok q) : r.map (ad E) = q.map (ad E) ↔ r = q := by
  cases r with
  | none => cases q <;> simp
  | some a =>
    cases q with
    | none => simp
    | some b =>
      simp only [Option.map_some, Option.some.injEq]
      exact ⟨fun h => ad_inj (hr a rfl) (hq b rfl) h, fun h => by rw [h]⟩
theorem ax_acmp_neT {off : Int} {r q : Option Nat} (tgt : Nat) (hd : decode mi.2.1 pc = .ok (.if_acmp .ne off, 3)) (ht : (pc : Int) + off = (tgt : Int)) (hr : rok r) (hq : rok q) (hc : ¬ r = q) (k : AW l E mi R B Qf tgt L st h) : AW l E mi R B Qf pc L (va_rf q :: va_rf r :: st) h := by
  refine ⟨k.1, fun b1 b2 hL p e s m args below meth c H locs ls F hR hS hl => ?_⟩
  show W p l e R s m args below meth c H locs _ _ _ (F0 m pc ls (vr E (va_rf q) :: vr E (va_rf r) :: st.map (vr E)))
  rw [vr_rf, vr_rf]
  exact lv_acmp_ne F.1 F.2.1 hd ht (fun _ => (k.2 b1 b2 hL p e s m args below meth c H locs ls F hR hS hl)) (fun z => absurd ((rok_map hr hq).mp z) hc)
theorem ax_acmp_neF {off : Int} {r q : Option Nat} (tgt : Nat) (hd : decode mi.2.1 pc = .ok (.if_acmp .ne off, 3)) (ht : (pc : Int) + off = (tgt : Int)) (hr : rok r) (hq : rok q) (hc : r = q) (k : AW l E mi R B Qf (pc + 3) L st h) : AW l E mi R B Qf pc L (va_rf q :: va_rf r :: st) h := by
  refine ⟨k.1, fun b1 b2 hL p e s m args below meth c H locs ls F hR hS hl => ?_⟩
  show W p l e R s m args below meth c H locs _ _ _ (F0 m pc ls (vr E (va_rf q) :: vr E (va_rf r) :: st.map (vr E)))
  rw [vr_rf, vr_rf]
  exact lv_acmp_ne F.1 F.2.1 hd ht (fun z => absurd ((rok_map hr hq).mpr hc) z) (fun _ => (k.2 b1 b2 hL p e s m args below meth c H locs ls F hR hS hl))
theorem ax_tsIn {dflt lo hi : Int} {offs : Array Int} {len : Nat} {x : Int32} {off : Int} (tgt : Nat) (hd : decode mi.2.1 pc = .ok (.tableswitch dflt lo hi offs, len)) (j : Nat) (hx : x.toInt = lo + j) (hj : lo + j ≤ hi) (ho : offs[j]? = some off) (ht : (pc : Int) + off = (tgt : Int)) (k : AW l E mi R B Qf tgt L st h) : AW l E mi R B Qf pc L (.int x :: st) h :=
  ⟨k.1, fun b1 b2 hL p e s m args below meth c H locs ls F hR hS hl => lv_tableIn F.1 F.2.1 hd (by omega) (by omega) (by rw [show (x.toInt - lo).toNat = j by omega]; exact ho) ht (k.2 b1 b2 hL p e s m args below meth c H locs ls F hR hS hl)⟩
theorem ax_tsOut {dflt lo hi : Int} {offs : Array Int} {len : Nat} {x : Int32} (tgt : Nat) (hd : decode mi.2.1 pc = .ok (.tableswitch dflt lo hi offs, len)) (hx : x.toInt < lo ∨ hi < x.toInt) (ht : (pc : Int) + dflt = (tgt : Int)) (k : AW l E mi R B Qf tgt L st h) : AW l E mi R B Qf pc L (.int x :: st) h :=
  ⟨k.1, fun b1 b2 hL p e s m args below meth c H locs ls F hR hS hl => lv_tableOut F.1 F.2.1 hd hx ht (k.2 b1 b2 hL p e s m args below meth c H locs ls F hR hS hl)⟩
theorem ax_lsw {dflt : Int} {ps : Array (Int × Int)} {len : Nat} {x : Int32} {off : Int} (tgt : Nat) (hd : decode mi.2.1 pc = .ok (.lookupswitch dflt ps, len)) (hp : (ps.toList.zip (ps.toList.drop 1)).all (fun (a, next) => a.1 < next.1) = true) (ho : Op.lookupswitch.offset ps.toList dflt x.toInt = off) (ht : (pc : Int) + off = (tgt : Int)) (k : AW l E mi R B Qf tgt L st h) : AW l E mi R B Qf pc L (.int x :: st) h :=
  ⟨k.1, fun b1 b2 hL p e s m args below meth c H locs ls F hR hS hl => lv_lookup F.1 F.2.1 hd hp ho ht (k.2 b1 b2 hL p e s m args below meth c H locs ls F hR hS hl)⟩
theorem ax_ldc {ix : Nat} {v : Int32} (hw : Cond.constant mi.1.cls ix v ∈ zgw) (hd : decode mi.2.1 pc = .ok (.ldc ix, 2)) (k : AW l E mi R B Qf (pc + 2) L (.int v :: st) h) : AW l E mi R B Qf pc L st h :=
  ⟨k.1, fun b1 b2 hL p e s m args below meth c H locs ls F hR hS hl => lv_ldc F.1 F.2.1 F.2.2.2.2.2.1 (F.2.2.2.2.2.2.2.1 _ hw) hd (k.2 b1 b2 hL p e s m args below meth c H locs ls F hR hS hl)⟩
theorem ax_ldcw {ix : Nat} {v : Int32} (hw : Cond.constant mi.1.cls ix v ∈ zgw) (hd : decode mi.2.1 pc = .ok (.ldc_w ix, 3)) (k : AW l E mi R B Qf (pc + 3) L (.int v :: st) h) : AW l E mi R B Qf pc L st h :=
  ⟨k.1, fun b1 b2 hL p e s m args below meth c H locs ls F hR hS hl => lv_ldcw F.1 F.2.1 F.2.2.2.2.2.1 (F.2.2.2.2.2.2.2.1 _ hw) hd (k.2 b1 b2 hL p e s m args below meth c H locs ls F hR hS hl)⟩
theorem ax_ldc2 {ix : Nat} {v : Int64} (hw : Cond.constantLong mi.1.cls ix v ∈ zgw) (hd : decode mi.2.1 pc = .ok (.ldc2_w ix, 3)) (k : AW l E mi R B Qf (pc + 3) L (.long v :: st) h) : AW l E mi R B Qf pc L st h :=
  ⟨k.1, fun b1 b2 hL p e s m args below meth c H locs ls F hR hS hl => lv_ldc2 F.1 F.2.1 F.2.2.2.2.2.1 (F.2.2.2.2.2.2.2.1 _ hw) hd (k.2 b1 b2 hL p e s m args below meth c H locs ls F hR hS hl)⟩
theorem ax_mask (bs : List Bool) (hb : bs.length = L.length) (L' : List (Option Value)) (hL' : List.zipWith (fun (b : Bool) (v : Option Value) => if b then v else none) bs L = L') (k : AW l E mi R B Qf pc L' st h) : AW l E mi R B Qf pc L st h := by
  subst hL'
  exact ⟨k.1, fun b1 b2 hL p e s m args below meth c H locs ls F hR hS hl => k.2 b1 b2 (by rw [List.length_zipWith, hb, Nat.min_self]; exact hL) p e s m args below meth c H locs ls F hR hS (hl.mask bs hb)⟩
end AR
end
section
/-! THE RULES that read and write cells -/
theorem vat_one {D : va_G} {cl : List vw_C} {q : Nat × va_E} {H : Heap} (h : va_at D cl q H) : va_P D cl [q] H := by
  intro k x hx
  have hk : k < 1 := (List.getElem?_eq_some_iff.mp hx).1
  rw [show k = 0 by omega] at hx
  cases hx
  exact h
theorem vpV_fls {E : EN} {h : AH} {a c j : Nat} (hj : j < znf c) : vp_V (fls E h a c) j = fvl E h a (zso c j) j := by
  unfold vp_V fls
  rw [List.getD_eq_getElem?_getD, List.getElem?_map, List.getElem?_range hj]
  rfl
theorem fls_at {E : EN} {h : AH} {a c j : Nat} (hj : j < znf c) : (fls E h a c)[j]? = some (fvl E h a (zso c j) j) := by
  unfold fls
  rw [List.getElem?_map, List.getElem?_range hj]
  rfl
theorem fls_len {E : EN} {h : AH} {a c : Nat} : (fls E h a c).length = znf c := by simp [fls]
theorem RH.lo {E : EN} {h : AH} {H : Heap} (hR : RH E h H) {a c : Nat} (hk : hK h a = (100 + c, 0)) : 4 ≤ a ∧ a < hM h := by
  obtain ⟨h1, h2, h3, h4, h5, h6⟩ := hR
  constructor
  · rcases Nat.lt_or_ge a 4 with q | q
    · have e := h6 a q
      rw [hk] at e
      simp only at e
      split at e <;> omega
    · exact q
  · rcases Nat.lt_or_ge a (hM h) with q | q
    · exact q
    · have e := h4 a q
      rw [hk] at e
      have := congrArg Prod.fst e
      simp at this
theorem RH.ltM {E : EN} {h : AH} {H : Heap} (hR : RH E h H) {a d : Nat} (hd : 0 < d) (hk : (hK h a).1 = d) : a < hM h := by
  obtain ⟨h1, h2, h3, h4, h5, h6⟩ := hR
  rcases Nat.lt_or_ge a (hM h) with q | q
  · exact q
  · have e := h4 a q
    rw [e] at hk
    simp only at hk
    omega
theorem RH.obj {E : EN} {h : AH} {H : Heap} (hR : RH E h H) {a c : Nat} (hk : hK h a = (100 + c, 0)) : va_at (eD E) zcl (ad E a, .inr (c, fls E h a c)) H := by
  obtain ⟨q1, q2⟩ := hR.lo hk
  have h3 := hR.2.2.1 a q1 q2
  have e : cel E h a = .inr (c, fls E h a c) := by
    unfold cel
    rw [hk]
    simp only
    rw [if_neg (by omega), show 100 + c - 100 = c by omega]
  rw [e] at h3
  exact h3
theorem RH.row {E : EN} {h : AH} {H : Heap} (hR : RH E h H) {a d : Nat} (h4 : 4 ≤ a) (hd : 0 < d) (hd2 : d < 100) (hk : (hK h a).1 = d) : va_at (eD E) zcl (ad E a, .inl (eA E d, (hK h a).2, arr E h a d)) H := by
  have q2 := hR.ltM hd hk
  have h3 := hR.2.2.1 a h4 q2
  have e : cel E h a = .inl (eA E d, (hK h a).2, arr E h a d) := by
    unfold cel
    rw [if_pos (by omega), hk]
  rw [e] at h3
  exact h3
theorem cel_eq {E : EN} {h h' : AH} {b : Nat} (h0 : hK h' b = hK h b) (h1 : hI h' b = hI h b) (h2 : hJ h' b = hJ h b) (h3 : hR h' b = hR h b) : cel E h' b = cel E h b := by
  unfold cel arr fls fvl
  rw [h0, h1, h2, h3]
/-- a cell of our own has changed its contents -/
theorem RH.upd {E : EN} {h h' : AH} {H H1 : Heap} {a : Nat} (hRR : RH E h H) (h4 : 4 ≤ a) (hm : hM h' = hM h) (hk : ∀ b, hK h' b = hK h b) (hb : ∀ b, b ≠ a → hI h' b = hI h b ∧ hJ h' b = hJ h b ∧ hR h' b = hR h b) (z : H1.size = H.size) (oq : ∀ q : Nat, q ≠ ad E a → H1[q]? = H[q]?) (hat : va_at (eD E) zcl (ad E a, cel E h' a) H1) : RH E h' H1 := by
  obtain ⟨g1, g2, g3, g4, g5, g6⟩ := hRR
  refine ⟨by rw [hm]; exact g1, by rw [z, hm]; exact g2, fun b b4 bM => ?_, fun b bM => by rw [hk]; exact g4 b (by rw [← hm]; exact bM), fun b b4 => ?_, fun b b4 => by rw [hk]; exact g6 b b4⟩
  · by_cases e : b = a
    · subst e; exact hat
    · obtain ⟨e1, e2, e3⟩ := hb b e
      rw [cel_eq (hk b) e1 e2 e3]
      exact (g3 b b4 (by rw [← hm]; exact bM)).kept (oq _ (fun z2 => e (ad_inj b4 h4 z2)))
  · obtain ⟨e1, e2, -⟩ := hb b (by omega)
    rw [hk, e1, e2]
    exact g5 b b4
/-- which field an entry of a class's pool names -/
def FL (own : String) (idx ci k : Nat) : Prop := ∃ r : vw_C, zcl[ci]? = some r ∧ k < r.2.2 ∧ (Cond.fieldLink own idx r.1 (r.2.1 k).2.1 (r.2.1 k).2.2.1 ∈ zgw ∨ ∃ host, Cond.fieldLinkNest own idx r.1 (r.2.1 k).2.1 (r.2.1 k).2.2.1 host ∈ znw)
/-- the same, of one that may be written -/
def FW (own nm : String) (idx ci k : Nat) : Prop := ∃ r : vw_C, zcl[ci]? = some r ∧ k < r.2.2 ∧ (((r.2.1 k).2.2.2 = false ∧ (Cond.fieldLink own idx r.1 (r.2.1 k).2.1 (r.2.1 k).2.2.1 ∈ zgw ∨ ∃ host, Cond.fieldLinkNest own idx r.1 (r.2.1 k).2.1 (r.2.1 k).2.2.1 host ∈ znw)) ∨
  ((r.2.1 k).2.2.2 = true ∧ nm = "<init>" ∧ r.1 = own ∧ Cond.fieldLink own idx r.1 (r.2.1 k).2.1 (r.2.1 k).2.2.1 ∈ zgw))
section HR
variable {p : Program} {l : Launch} {e : Env} {R : Room} {s : State} {m : MethodId} {args : Array Value} {below : List Frame} {meth : Method} {c : Code} {H : Heap} {locs : List Loc} {cells slots : Nat} {Q : State → Prop} {E : EN} {mi : MI} {h h' : AH} {pc : Nat} {ls : Array Slot} {rest : List Value}
theorem wx_get {idx ci k a : Nat} (F : FX E mi p s m args meth c) (hRH : RH E h H) (fl : FL mi.1.cls idx ci k) (hk : hK h a = (100 + ci, 0)) (hd : decode mi.2.1 pc = .ok (.getfield idx, 3)) (kk : W p l e R s m args below meth c H locs cells slots Q (F0 m (pc + 3) ls (fvl E h a (zso ci k) k :: rest))) : W p l e R s m args below meth c H locs cells slots Q (F0 m pc ls (.ref (ad E a) :: rest)) := by
  obtain ⟨r, hc, hkN, hlk⟩ := fl
  obtain ⟨i1, i2, i3, i4, i5, -⟩ := zall ci r hc
  obtain ⟨C, T, N⟩ := r
  have hP := vat_one (hRH.obj hk)
  have hv : (fls E h a ci)[k]? = some (fvl E h a (zso ci k) k) := fls_at (by rw [i5]; exact hkN)
  have ho : (T k).1 = C := i4 k hkN
  rcases hlk with hlk | ⟨host, hlk⟩
  · exact va_get F.1 F.2.1 F.2.2.2.2.2.2.2.1 i1 F.2.2.2.2.2.1 F.2.2.2.2.2.2.2.2.1.1 hP 0 rfl hc k hkN (F.2.2.2.2.2.2.2.1 _ hlk) (fun x hx => by rw [ho] at hx; exact hx) hv hd kk
  · exact va_getN F.1 F.2.1 F.2.2.2.2.2.2.2.1 i1 F.2.2.2.2.2.1 F.2.2.2.2.2.2.2.2.1.1 hP 0 rfl hc k hkN (va_Nw.use rfl (F.2.2.2.2.2.2.2.2.1.2.1 _ hlk)) (fun x hx => by rw [ho] at hx; exact hx) hv hd kk
theorem wx_put {idx ci k a : Nat} {v : Value} (F : FX E mi p s m args meth c) (hRH : RH E h H) (hS : va_S (fr E) s.heap H locs) (fw : FW mi.1.cls mi.1.name idx ci k) (hk : hK h a = (100 + ci, 0)) (hn : narrow (zty ci k) v = v) (hfit : fits (zty ci k) v = true)
    (hm : hM h' = hM h) (hk' : ∀ b, hK h' b = hK h b) (hb : ∀ b, b ≠ a → hI h' b = hI h b ∧ hJ h' b = hJ h b ∧ hR h' b = hR h b) (hv : ∀ j, j < znf ci → fvl E h' a (zso ci j) j = if j = k then v else fvl E h a (zso ci j) j)
    (hd : decode mi.2.1 pc = .ok (.putfield idx, 3)) (kk : ∀ (H1 : Heap) (locs1 : List Loc), RH E h' H1 → va_S (fr E) s.heap H1 locs1 → W p l e R s m args below meth c H1 locs1 cells slots Q (F0 m (pc + 3) ls rest)) : W p l e R s m args below meth c H locs cells slots Q (F0 m pc ls (v :: .ref (ad E a) :: rest)) := by
  obtain ⟨r, hc, hkN, hlk⟩ := fw
  obtain ⟨i1, i2, i3, i4, i5, -⟩ := zall ci r hc
  obtain ⟨C, T, N⟩ := r
  have hts := F.2.2.2.2.2.2.2.1
  have hK := F.2.2.2.2.2.2.2.2.1.1
  have hown := F.2.2.2.2.2.1
  have ho : (T k).1 = C := i4 k hkN
  have h4 := (hRH.lo hk).1
  obtain ⟨r, h1, cell, q1, q2, q3, q4⟩ := hRH.obj hk
  have hr : r = (C, T, N) := Option.some.inj (h1.symm.trans hc)
  subst hr
  have hap := va_apart (own := mi.1.cls) hts i1 (zty ci) i3 i2 hK hc
  obtain ⟨hSl, hfc, kC, hkC, hkind⟩ := hK.1 ci _ hc
  obtain ⟨cf, kf, fi, f, hi, hsl⟩ := hSl k hkN
  have hst := (u_facts hfc hkC (u_lays hts i1 hkN) hi).1
  have hd2 := i3 k hkN
  have fin : ∀ H' : Heap, H'[ad E a]? = some (cell.setSlot (((eD E).2 ci) k) v) → H'.size = H.size → (∀ q, q ≠ ad E a → H'[q]? = H[q]?) → RH E h' H' := by
    intro H' e1 e2 e3
    refine hRH.upd h4 hm hk' hb e2 e3 ?_
    have ec : cel E h' a = .inr (ci, fls E h' a ci) := by
      unfold cel
      rw [hk', hk]
      simp only
      rw [if_neg (by omega), show 100 + ci - 100 = ci by omega]
    rw [ec]
    refine ⟨_, hc, t_OB.to (V := updV (vp_V (fls E h a ci)) k v) ⟨_, e1, q2, q3, t_set q4 hap hkN v⟩ (fun j hj => ?_)⟩
    have hj2 : j < znf ci := by rw [i5]; exact hj
    rw [vpV_fls hj2, hv j hj2]
    unfold updV
    rw [vpV_fls hj2]
  rcases hlk with ⟨hf, hlk⟩ | ⟨hf, hnm, hC, hlk⟩
  · have hlay := hts _ (i1 _ (u_in_lay hkN))
    unfold u_lay at hlay
    rw [if_neg (by rw [hf]; decide)] at hlay
    have h6 := u_store hfc hkC hkind hlay hi hd2 hn hfit
    rcases hlk with hlk | ⟨host, hlk⟩
    · refine W.putK F.1 F.2.1 (f := f) ⟨hown, hts _ hlk, ⟨_, _, _, by rw [ho] at hi; exact hi⟩, hst⟩ (by rw [q2]; exact h6) q1 q3 (by rw [hsl]; exact k2_hasslot (q4 k hkN)) rfl rfl hd fun H' e1 e2 e3 => ?_
      rw [hsl] at e1 ⊢
      exact kk H' _ (fin H' e1 e2 e3) (hS.put e2 e3 (ad_fr h4))
    · refine va_WputK F.1 F.2.1 (f := f) hown (va_Nw.use rfl (F.2.2.2.2.2.2.2.2.1.2.1 _ hlk)) (by rw [ho] at hi; exact hi) hst (by rw [q2]; exact h6) q1 q3 (by rw [hsl]; exact k2_hasslot (q4 k hkN)) rfl rfl hd fun H' e1 e2 e3 => ?_
      rw [hsl] at e1 ⊢
      exact kk H' _ (fin H' e1 e2 e3) (hS.put e2 e3 (ad_fr h4))
  · have hlay := hts _ (i1 _ (u_in_lay hkN))
    unfold u_lay at hlay
    rw [if_pos hf] at hlay
    have hcf : m.cls = cf := by
      obtain ⟨_, _, c', _, _, _, -, -, hf', -, -, -, hown2, -⟩ := Cond.laysFinal_spec hlay
      have e1 : c' = cf := by have := hi.symm.trans hf'; simp at this; exact this.1.symm
      have ho2 : (T k).1 = mi.1.cls := ho.trans hC
      rw [ho2] at hown2
      rw [← e1]; exact Option.some.inj (hown.symm.trans hown2)
    have h6 := u_fits hfc hkC hkind (Or.inr hlay) hi hd2 hn hfit
    refine W.putFinK F.1 F.2.1 hown (hts _ hlk) (by rw [ho] at hi; exact hi) hst hcf (F.2.2.2.2.2.2.1 hnm) (by rw [q2]; exact h6) q1 q3 (by rw [hsl]; exact k2_hasslot (q4 k hkN)) rfl rfl hd fun H' e1 e2 e3 => ?_
    rw [hsl] at e1 ⊢
    exact kk H' _ (fin H' e1 e2 e3) (hS.put e2 e3 (ad_fr h4))
end HR
section HX
variable {l : Launch} {E : EN} {mi : MI} {R : Room} {B : (Nat × Nat) × (Nat × Nat)} {Qf : QF} {pc : Nat} {L : List (Option Value)} {st : List Value} {h h' : AH}
theorem gI_of {c a k : Nat} {x : Int32} (hg : gI c h a k = some x) : hK h a = (100 + c, 0) ∧ hI h a k = x := by
  unfold gI at hg; split at hg
  · exact ⟨by assumption, Option.some.inj hg⟩
  · cases hg
theorem gJ_of {c a k : Nat} {x : Int64} (hg : gJ c h a k = some x) : hK h a = (100 + c, 0) ∧ hJ h a k = x := by
  unfold gJ at hg; split at hg
  · exact ⟨by assumption, Option.some.inj hg⟩
  · cases hg
theorem gR_of {c a k : Nat} {x : Option Nat} (hg : gR c h a k = some x) : hK h a = (100 + c, 0) ∧ hR h a k = x := by
  unfold gR at hg; split at hg
  · exact ⟨by assumption, Option.some.inj hg⟩
  · cases hg
theorem ax_getI {idx ci k a : Nat} {x : Int32} (fl : FL mi.1.cls idx ci k) (hs : Nat.ble (zso ci k) 1 = true) (hd : decode mi.2.1 pc = .ok (.getfield idx, 3)) (hg : gI ci h a k = some x) (kx : AW l E mi R B Qf (pc + 3) L (.int x :: st) h) : AW l E mi R B Qf pc L (va_rf (some a) :: st) h := by
  obtain ⟨hk, hx⟩ := gI_of hg
  refine ⟨kx.1, fun b1 b2 hL p e s m args below meth c H locs ls F hRH hS hl => wx_get F hRH fl hk hd ?_⟩
  have ev : fvl E h a (zso ci k) k = .int x := by
    unfold fvl
    have := Nat.le_of_ble_eq_true hs
    split
    · omega
    · omega
    · rw [hx]
  rw [ev]
  exact kx.2 b1 b2 hL p e s m args below meth c H locs ls F hRH hS hl
theorem ax_getJ {idx ci k a : Nat} {x : Int64} (fl : FL mi.1.cls idx ci k) (hs : zso ci k = 2) (hd : decode mi.2.1 pc = .ok (.getfield idx, 3)) (hg : gJ ci h a k = some x) (kx : AW l E mi R B Qf (pc + 3) L (.long x :: st) h) : AW l E mi R B Qf pc L (va_rf (some a) :: st) h := by
  obtain ⟨hk, hx⟩ := gJ_of hg
  refine ⟨kx.1, fun b1 b2 hL p e s m args below meth c H locs ls F hRH hS hl => wx_get F hRH fl hk hd ?_⟩
  have ev : fvl E h a (zso ci k) k = .long x := by
    rw [hs]; show Value.long (hJ h a k) = _; rw [hx]
  rw [ev]
  exact kx.2 b1 b2 hL p e s m args below meth c H locs ls F hRH hS hl
theorem ax_getR {idx ci k a : Nat} {x : Option Nat} (fl : FL mi.1.cls idx ci k) (hs : zso ci k = 3) (hd : decode mi.2.1 pc = .ok (.getfield idx, 3)) (hg : gR ci h a k = some x) (kx : AW l E mi R B Qf (pc + 3) L (va_rf x :: st) h) : AW l E mi R B Qf pc L (va_rf (some a) :: st) h := by
  obtain ⟨hk, hx⟩ := gR_of hg
  refine ⟨kx.1, fun b1 b2 hL p e s m args below meth c H locs ls F hRH hS hl => wx_get F hRH fl hk hd ?_⟩
  have ev : fvl E h a (zso ci k) k = vr E (va_rf x) := by
    rw [hs, vr_rf]; show va_rf ((hR h a k).map (ad E)) = _; rw [hx]
  rw [ev]
  exact kx.2 b1 b2 hL p e s m args below meth c H locs ls F hRH hS hl
theorem hI_uI (h : AH) (a k : Nat) (v : Int32) (b j : Nat) : hI (uI h a k v) b j = if b = a ∧ j = k then v else hI h b j := rfl
theorem hJ_uJ (h : AH) (a k : Nat) (v : Int64) (b j : Nat) : hJ (uJ h a k v) b j = if b = a ∧ j = k then v else hJ h b j := rfl
theorem hR_uR (h : AH) (a k : Nat) (v : Option Nat) (b j : Nat) : hR (uR h a k v) b j = if b = a ∧ j = k then v else hR h b j := rfl
theorem uI_row {h : AH} {a k b : Nat} {v : Int32} (hb : b ≠ a) : hI (uI h a k v) b = hI h b := by funext j; rw [hI_uI, if_neg (fun q => hb q.1)]
theorem uJ_row {h : AH} {a k b : Nat} {v : Int64} (hb : b ≠ a) : hJ (uJ h a k v) b = hJ h b := by funext j; rw [hJ_uJ, if_neg (fun q => hb q.1)]
theorem uR_row {h : AH} {a k b : Nat} {v : Option Nat} (hb : b ≠ a) : hR (uR h a k v) b = hR h b := by funext j; rw [hR_uR, if_neg (fun q => hb q.1)]
theorem ax_putI {idx ci k a : Nat} {v : Int32} (fw : FW mi.1.cls mi.1.name idx ci k) (hs : zso ci k = 0) (hci : Nat.blt ci 13 = true) (hd : decode mi.2.1 pc = .ok (.putfield idx, 3)) (hg : pI ci h a k v = some h') (kx : AW l E mi R B Qf (pc + 3) L st h') : AW l E mi R B Qf pc L (.int v :: va_rf (some a) :: st) h := by
  unfold pI at hg
  split at hg
  · rename_i hk
    cases hg
    refine ⟨kx.1, fun b1 b2 hL p e s m args below meth c H locs ls F hRH hS hl => ?_⟩
    have hkN : k < znf ci := by obtain ⟨r, hc, hkN, -⟩ := fw; rw [(zall ci r hc).2.2.2.2.1]; exact hkN
    have hz := (zso_int ci (by have := Nat.le_of_ble_eq_true hci; omega) k hkN).1 hs
    refine wx_put (h' := uI h a k v) (v := .int v) F hRH hS fw hk (by rw [hz]; rfl) (by rw [hz]; rfl) rfl (fun _ => rfl) (fun b hb => ⟨uI_row hb, rfl, rfl⟩) (fun j hj => ?_) hd (fun H1 locs1 g1 g2 => kx.2 b1 b2 hL p e s m args below meth c H1 locs1 ls F g1 g2 hl)
    by_cases ej : j = k
    · subst ej
      rw [if_pos rfl, hs]
      show Value.int (hI (uI h a j v) a j) = _
      rw [hI_uI, if_pos ⟨rfl, rfl⟩]
    · rw [if_neg ej]
      unfold fvl
      rw [hI_uI, if_neg (fun q => ej q.2)]
      rfl
  · cases hg
theorem ax_putZ {idx ci k a : Nat} {v : Int32} (fw : FW mi.1.cls mi.1.name idx ci k) (hs : zso ci k = 1) (hci : Nat.blt ci 13 = true) (hd : decode mi.2.1 pc = .ok (.putfield idx, 3)) (hg : pZ ci h a k v = some h') (kx : AW l E mi R B Qf (pc + 3) L st h') : AW l E mi R B Qf pc L (.int v :: va_rf (some a) :: st) h := by
  unfold pZ at hg
  split at hg
  · rename_i hk2
    obtain ⟨hk, hv⟩ := hk2
    cases hg
    refine ⟨kx.1, fun b1 b2 hL p e s m args below meth c H locs ls F hRH hS hl => ?_⟩
    have hkN : k < znf ci := by obtain ⟨r, hc, hkN, -⟩ := fw; rw [(zall ci r hc).2.2.2.2.1]; exact hkN
    have hz := (zso_int ci (by have := Nat.le_of_ble_eq_true hci; omega) k hkN).2.1 hs
    refine wx_put (h' := uI h a k v) (v := .int v) F hRH hS fw hk (by rw [hz]; rcases hv with rfl | rfl <;> rfl) (by rw [hz]; rcases hv with rfl | rfl <;> rfl) rfl (fun _ => rfl) (fun b hb => ⟨uI_row hb, rfl, rfl⟩) (fun j hj => ?_) hd (fun H1 locs1 g1 g2 => kx.2 b1 b2 hL p e s m args below meth c H1 locs1 ls F g1 g2 hl)
    by_cases ej : j = k
    · subst ej
      rw [if_pos rfl, hs]
      show Value.int (hI (uI h a j v) a j) = _
      rw [hI_uI, if_pos ⟨rfl, rfl⟩]
    · rw [if_neg ej]
      unfold fvl
      rw [hI_uI, if_neg (fun q => ej q.2)]
      rfl
  · cases hg
theorem ax_putJ {idx ci k a : Nat} {v : Int64} (fw : FW mi.1.cls mi.1.name idx ci k) (hs : zso ci k = 2) (hci : Nat.blt ci 13 = true) (hd : decode mi.2.1 pc = .ok (.putfield idx, 3)) (hg : pJ ci h a k v = some h') (kx : AW l E mi R B Qf (pc + 3) L st h') : AW l E mi R B Qf pc L (.long v :: va_rf (some a) :: st) h := by
  unfold pJ at hg
  split at hg
  · rename_i hk
    cases hg
    refine ⟨kx.1, fun b1 b2 hL p e s m args below meth c H locs ls F hRH hS hl => ?_⟩
    have hkN : k < znf ci := by obtain ⟨r, hc, hkN, -⟩ := fw; rw [(zall ci r hc).2.2.2.2.1]; exact hkN
    have hz := (zso_int ci (by have := Nat.le_of_ble_eq_true hci; omega) k hkN).2.2.1 hs
    refine wx_put (h' := uJ h a k v) (v := .long v) F hRH hS fw hk (by rw [hz]; rfl) (by rw [hz]; rfl) rfl (fun _ => rfl) (fun b hb => ⟨rfl, uJ_row hb, rfl⟩) (fun j hj => ?_) hd (fun H1 locs1 g1 g2 => kx.2 b1 b2 hL p e s m args below meth c H1 locs1 ls F g1 g2 hl)
    by_cases ej : j = k
    · subst ej
      rw [if_pos rfl, hs]
      show Value.long (hJ (uJ h a j v) a j) = _
      rw [hJ_uJ, if_pos ⟨rfl, rfl⟩]
    · rw [if_neg ej]
      unfold fvl
      rw [hJ_uJ, if_neg (fun q => ej q.2)]
      rfl
  · cases hg
theorem fits_ref {t : FieldType} (h : refKind t = true) (r : Option Nat) : narrow t (va_rf r) = va_rf r ∧ fits t (va_rf r) = true := by
  cases t <;> first | (exfalso; revert h; decide) | (cases r <;> exact ⟨rfl, rfl⟩)
theorem ax_putR {idx ci k a : Nat} {v : Option Nat} (fw : FW mi.1.cls mi.1.name idx ci k) (hs : zso ci k = 3) (hci : Nat.blt ci 13 = true) (hd : decode mi.2.1 pc = .ok (.putfield idx, 3)) (hg : pR ci h a k v = some h') (kx : AW l E mi R B Qf (pc + 3) L st h') : AW l E mi R B Qf pc L (va_rf v :: va_rf (some a) :: st) h := by
  unfold pR at hg
  split at hg
  · rename_i hk
    cases hg
    refine ⟨kx.1, fun b1 b2 hL p e s m args below meth c H locs ls F hRH hS hl => ?_⟩
    have hkN : k < znf ci := by obtain ⟨r, hc, hkN, -⟩ := fw; rw [(zall ci r hc).2.2.2.2.1]; exact hkN
    have hz := (zso_int ci (by have := Nat.le_of_ble_eq_true hci; omega) k hkN).2.2.2.1 hs
    show W p l e R s m args below meth c H locs _ _ _ (F0 m pc ls (vr E (va_rf v) :: vr E (va_rf (some a)) :: st.map (vr E)))
    rw [vr_rf]
    refine wx_put (h' := uR h a k v) (v := va_rf (v.map (ad E))) F hRH hS fw hk (fits_ref hz _).1 (fits_ref hz _).2 rfl (fun _ => rfl) (fun b hb => ⟨rfl, rfl, uR_row hb⟩) (fun j hj => ?_) hd (fun H1 locs1 g1 g2 => kx.2 b1 b2 hL p e s m args below meth c H1 locs1 ls F g1 g2 hl)
    by_cases ej : j = k
    · subst ej
      rw [if_pos rfl, hs]
      show va_rf ((hR (uR h a j v) a j).map (ad E)) = _
      rw [hR_uR, if_pos ⟨rfl, rfl⟩]
    · rw [if_neg ej]
      unfold fvl
      rw [hR_uR, if_neg (fun q => ej q.2)]
      rfl
  · cases hg
end HX
end
section
/-! THE RULES of arrays, of what is made, of the static tables -/
section HA
variable {l : Launch} {E : EN} {mi : MI} {R : Room} {B : (Nat × Nat) × (Nat × Nat)} {Qf : QF} {pc : Nat} {L : List (Option Value)} {st : List Value} {h h' : AH}
theorem ix_of {d a j : Nat} {i : Int32} (hg : ix d h a i = some j) : (hK h a).1 = d ∧ vp_in i (hK h a).2 ∧ j = i.toNatClampNeg := by
  unfold ix at hg; split at hg
  · rename_i q
    exact ⟨q.1, fun z => z.elim q.2.1 (fun z => absurd q.2.2 (Nat.not_lt.mpr z)), (Option.some.inj hg).symm⟩
  · cases hg
theorem rI_of {d a : Nat} {i x : Int32} (hg : rI d h a i = some x) : (hK h a).1 = d ∧ vp_in i (hK h a).2 ∧ hI h a i.toNatClampNeg = x := by
  unfold rI at hg
  cases e : ix d h a i with
  | none => rw [e] at hg; cases hg
  | some j =>
    rw [e] at hg
    obtain ⟨q1, q2, rfl⟩ := ix_of e
    exact ⟨q1, q2, Option.some.inj hg⟩
theorem rJ_of {a : Nat} {i : Int32} {x : Int64} (hg : rJ h a i = some x) : (hK h a).1 = 4 ∧ vp_in i (hK h a).2 ∧ hJ h a i.toNatClampNeg = x := by
  unfold rJ at hg
  cases e : ix 4 h a i with
  | none => rw [e] at hg; cases hg
  | some j =>
    rw [e] at hg
    obtain ⟨q1, q2, rfl⟩ := ix_of e
    exact ⟨q1, q2, Option.some.inj hg⟩
theorem rR_of {a c : Nat} {i : Int32} {x : Option Nat} (hg : rR c h a i = some x) : (hK h a).1 = 10 + c ∧ vp_in i (hK h a).2 ∧ hR h a i.toNatClampNeg = x := by
  unfold rR at hg
  cases e : ix (10 + c) h a i with
  | none => rw [e] at hg; cases hg
  | some j =>
    rw [e] at hg
    obtain ⟨q1, q2, rfl⟩ := ix_of e
    exact ⟨q1, q2, Option.some.inj hg⟩
theorem RH.not4 {H : Heap} (hRH : RH E h H) {a d : Nat} (h1 : d ≠ 1) (h2 : d ≠ 4) (hk : (hK h a).1 = d) : 4 ≤ a := by
  rcases Nat.lt_or_ge a 4 with q | q
  · have e := hRH.2.2.2.2.2 a q
    rw [hk] at e
    split at e
    · exact absurd e h2
    · exact absurd e h1
  · exact q
theorem ad_lo {a : Nat} (ha : a < 4) : ad E a = eS E a := by unfold ad; rw [if_pos ha]
theorem ax_iald {a : Nat} {i x : Int32} (hd : decode mi.2.1 pc = .ok (.iaload, 1)) (hg : rI 1 h a i = some x) (kx : AW l E mi R B Qf (pc + 1) L (.int x :: st) h) : AW l E mi R B Qf pc L (.int i :: va_rf (some a) :: st) h := by
  obtain ⟨hk, hin, hx⟩ := rI_of hg
  refine ⟨kx.1, fun b1 b2 hL p e s m args below meth c H locs ls F hRH hS hl => ?_⟩
  have kk := kx.2 b1 b2 hL p e s m args below meth c H locs ls F hRH hS hl
  show W p l e R s m args below meth c H locs _ _ _ (F0 m pc ls (.int i :: .ref (ad E a) :: st.map (vr E)))
  rcases Nat.lt_or_ge a 4 with ha | ha
  · have h2 : a ≠ 2 := by
      intro q
      have e := hRH.2.2.2.2.2 a ha
      rw [if_pos q, hk] at e
      omega
    obtain ⟨e1, e2, -⟩ := hRH.2.2.2.2.1 a ha
    rw [ad_lo ha]
    refine va_ti F.1 F.2.1 (F.2.2.2.2.2.2.2.2.1.2.2.2.1 a ha h2) hS (by rw [← e1]; exact hin) (v := .int x) ?_ hd kk
    show Value.int (hI (eH E) a _) = _
    rw [← e2, hx]
  · have hrow := hRH.row ha (d := 1) (by omega) (by omega) hk
    obtain ⟨t0, ht⟩ := tys_at E (d := 1) (by decide)
    subst hx
    exact va_iald F.1 F.2.1 F.2.2.2.2.2.2.2.2.1.1 (vat_one hrow) 0 t0 (f := hI h a) rfl ht hin hd kk
theorem ax_zald {a : Nat} {i x : Int32} (hd : decode mi.2.1 pc = .ok (.baload, 1)) (hg : rI 2 h a i = some x) (kx : AW l E mi R B Qf (pc + 1) L (.int x :: st) h) : AW l E mi R B Qf pc L (.int i :: va_rf (some a) :: st) h := by
  obtain ⟨hk, hin, hx⟩ := rI_of hg
  refine ⟨kx.1, fun b1 b2 hL p e s m args below meth c H locs ls F hRH hS hl => ?_⟩
  have kk := kx.2 b1 b2 hL p e s m args below meth c H locs ls F hRH hS hl
  have hrow := hRH.row (hRH.not4 (by omega) (by omega) hk) (d := 2) (by omega) (by omega) hk
  obtain ⟨t0, ht⟩ := tys_at E (d := 2) (by decide)
  subst hx
  exact va_zald F.1 F.2.1 F.2.2.2.2.2.2.2.2.1.1 (vat_one hrow) 0 t0 (f := hI h a) rfl ht hin hd kk
theorem ax_bald {a : Nat} {i x : Int32} (hd : decode mi.2.1 pc = .ok (.baload, 1)) (hg : rI 3 h a i = some x) (kx : AW l E mi R B Qf (pc + 1) L (.int x :: st) h) : AW l E mi R B Qf pc L (.int i :: va_rf (some a) :: st) h := by
  obtain ⟨hk, hin, hx⟩ := rI_of hg
  refine ⟨kx.1, fun b1 b2 hL p e s m args below meth c H locs ls F hRH hS hl => ?_⟩
  have kk := kx.2 b1 b2 hL p e s m args below meth c H locs ls F hRH hS hl
  have hrow := hRH.row (hRH.not4 (by omega) (by omega) hk) (d := 3) (by omega) (by omega) hk
  obtain ⟨t0, ht⟩ := tys_at E (d := 3) (by decide)
  subst hx
  exact va_bald F.1 F.2.1 F.2.2.2.2.2.2.2.2.1.1 (vat_one hrow) 0 t0 (f := hI h a) rfl ht hin hd kk
theorem ax_lald {a : Nat} {i : Int32} {x : Int64} (hd : decode mi.2.1 pc = .ok (.laload, 1)) (hg : rJ h a i = some x) (kx : AW l E mi R B Qf (pc + 1) L (.long x :: st) h) : AW l E mi R B Qf pc L (.int i :: va_rf (some a) :: st) h := by
  obtain ⟨hk, hin, hx⟩ := rJ_of hg
  refine ⟨kx.1, fun b1 b2 hL p e s m args below meth c H locs ls F hRH hS hl => ?_⟩
  have kk := kx.2 b1 b2 hL p e s m args below meth c H locs ls F hRH hS hl
  show W p l e R s m args below meth c H locs _ _ _ (F0 m pc ls (.int i :: .ref (ad E a) :: st.map (vr E)))
  rcases Nat.lt_or_ge a 4 with ha | ha
  · have h2 : a = 2 := by
      have e := hRH.2.2.2.2.2 a ha
      rw [hk] at e
      split at e
      · assumption
      · omega
    subst h2
    obtain ⟨e1, -, e2⟩ := hRH.2.2.2.2.1 2 ha
    rw [ad_lo ha]
    refine va_tl F.1 F.2.1 F.2.2.2.2.2.2.2.2.1.2.2.2.2.1 hS (by rw [← e1]; exact hin) (v := .long x) ?_ hd kk
    show Value.long (hJ (eH E) 2 _) = _
    rw [← e2, hx]
  · have hrow := hRH.row ha (d := 4) (by omega) (by omega) hk
    obtain ⟨t0, ht⟩ := tys_at E (d := 4) (by decide)
    subst hx
    exact va_lald F.1 F.2.1 F.2.2.2.2.2.2.2.2.1.1 (vat_one hrow) 0 t0 (f := hJ h a) rfl ht hin hd kk
theorem arr_ref {a d : Nat} (hd : 4 < d) : arr E h a d = .inr (.inr (.inr (.inr (fun i => (hR h a i).map (ad E))))) := by
  unfold arr; rw [if_neg (by omega), if_neg (by omega)]
theorem ax_aald {a c : Nat} {C : String} {i : Int32} {x : Option Nat} (hc : 10 + c ∈ kds) (hc2 : Nat.blt c 50 = true) (hC : kty (10 + c) = .object C) (hd : decode mi.2.1 pc = .ok (.aaload, 1)) (hg : rR c h a i = some x) (kx : AW l E mi R B Qf (pc + 1) L (va_rf x :: st) h) : AW l E mi R B Qf pc L (.int i :: va_rf (some a) :: st) h := by
  obtain ⟨hk, hin, hx⟩ := rR_of hg
  have hc3 := Nat.le_of_ble_eq_true hc2
  refine ⟨kx.1, fun b1 b2 hL p e s m args below meth cc H locs ls F hRH hS hl => ?_⟩
  have kk := kx.2 b1 b2 hL p e s m args below meth cc H locs ls F hRH hS hl
  have hrow := hRH.row (hRH.not4 (by omega) (by omega) hk) (d := 10 + c) (by omega) (by omega) hk
  rw [arr_ref (by omega)] at hrow
  obtain ⟨t0, ht⟩ := tys_at E hc
  rw [hC] at ht
  refine va_aldq F.1 F.2.1 F.2.2.2.2.2.2.2.2.1.1 (vat_one hrow) 0 t0 rfl ht hin hd ?_
  rw [hx, ← vr_rf]
  exact kk
theorem ax_alen {a d : Nat} {x : Int32} (hd' : d ∈ kds) (hd2 : Nat.blt d 100 = true) (hd : decode mi.2.1 pc = .ok (.arraylength, 1)) (hg : alen d h a = some x) (kx : AW l E mi R B Qf (pc + 1) L (.int x :: st) h) : AW l E mi R B Qf pc L (va_rf (some a) :: st) h := by
  unfold alen at hg
  split at hg
  · rename_i hk
    have hx := Option.some.inj hg
    refine ⟨kx.1, fun b1 b2 hL p e s m args below meth c H locs ls F hRH hS hl => ?_⟩
    have kk := kx.2 b1 b2 hL p e s m args below meth c H locs ls F hRH hS hl
    show W p l e R s m args below meth c H locs _ _ _ (F0 m pc ls (.ref (ad E a) :: st.map (vr E)))
    rcases Nat.lt_or_ge a 4 with ha | ha
    · obtain ⟨e1, -, -⟩ := hRH.2.2.2.2.1 a ha
      rw [ad_lo ha]
      by_cases h2 : a = 2
      · subst h2
        exact va_tlen F.1 F.2.1 F.2.2.2.2.2.2.2.2.1.2.2.2.2.1 hS (by rw [← e1]; exact hx) hd kk
      · exact va_tlen F.1 F.2.1 (F.2.2.2.2.2.2.2.2.1.2.2.2.1 a ha h2) hS (by rw [← e1]; exact hx) hd kk
    · have h0 : 0 < d := by
        rcases Nat.eq_zero_or_pos d with q | q
        · subst q; exact absurd hd' (by decide)
        · exact q
      have hrow := hRH.row ha (d := d) h0 (Nat.le_of_ble_eq_true hd2) hk
      obtain ⟨t0, ht⟩ := tys_at E hd'
      exact va_alen F.1 F.2.1 F.2.2.2.2.2.2.2.2.1.1 (vat_one hrow) 0 t0 rfl ht hx hd kk
  · cases hg
theorem cel_arr {a d : Nat} (hk : (hK h a).1 = d) (hd : d < 100) : cel E h a = .inl (eA E d, (hK h a).2, arr E h a d) := by
  unfold cel; rw [if_pos (by omega), hk]
theorem ax_iast {a : Nat} {i x : Int32} (hd : decode mi.2.1 pc = .ok (.iastore, 1)) (hg : wI h a i x = some h') (kx : AW l E mi R B Qf (pc + 1) L st h') : AW l E mi R B Qf pc L (.int x :: .int i :: va_rf (some a) :: st) h := by
  unfold wI at hg
  split at hg
  · rename_i h4
    cases eq : ix 1 h a i with
    | none => rw [eq] at hg; cases hg
    | some j =>
      rw [eq] at hg
      cases hg
      obtain ⟨hk, hin, rfl⟩ := ix_of eq
      refine ⟨kx.1, fun b1 b2 hL p e s m args below meth c H locs ls F hRH hS hl => ?_⟩
      have hrow := hRH.row h4 (d := 1) (by omega) (by omega) hk
      obtain ⟨t0, ht⟩ := tys_at E (d := 1) (by decide)
      refine W.iast F.1 F.2.1 hrow ((F.2.2.2.2.2.2.2.2.1.1.2 t0 _ ht).1 (hK h a).2 (fun j => .int (hI h a j))) (fun q => by cases q) (by show ¬ (i < 0 ∨ (arrV _ _ _).slots.size ≤ _); rw [arrV_size]; exact hin) rfl rfl hd fun H1 e1 z oq => ?_
      refine kx.2 b1 b2 hL p e s m args below meth c H1 _ ls F (hRH.upd h4 rfl (fun _ => rfl) (fun b hb => ⟨uI_row hb, rfl, rfl⟩) z oq ?_) (hS.put z oq (ad_fr h4)) hl
      rw [cel_arr (h := uI h a i.toNatClampNeg x) (d := 1) hk (by omega)]
      show H1[ad E a]? = some (arrV (eA E 1) (hK h a).2 (fun j => .int (hI (uI h a i.toNatClampNeg x) a j)))
      rw [e1]
      show some ((arrV (eA E 1) (hK h a).2 (fun j => .int (hI h a j))).setSlot _ _) = _
      rw [arrV_store]
      congr 2
      funext q
      show updV _ _ _ q = Value.int (hI (uI h a i.toNatClampNeg x) a q)
      rw [hI_uI]
      by_cases hq : q = i.toNatClampNeg
      · simp [updV, hq]
      · simp [updV, hq]
  · cases hg
theorem ax_zast {a : Nat} {i x : Int32} (hd : decode mi.2.1 pc = .ok (.bastore, 1)) (hg : wZ h a i x = some h') (kx : AW l E mi R B Qf (pc + 1) L st h') : AW l E mi R B Qf pc L (.int x :: .int i :: va_rf (some a) :: st) h := by
  unfold wZ at hg
  split at hg
  · rename_i h4
    cases eq : ix 2 h a i with
    | none => rw [eq] at hg; cases hg
    | some j =>
      rw [eq] at hg
      cases hg
      obtain ⟨hk, hin, rfl⟩ := ix_of eq
      refine ⟨kx.1, fun b1 b2 hL p e s m args below meth c H locs ls F hRH hS hl => ?_⟩
      have hrow := hRH.row h4 (d := 2) (by omega) (by omega) hk
      obtain ⟨t0, ht⟩ := tys_at E (d := 2) (by decide)
      refine W.zast F.1 F.2.1 hrow ((F.2.2.2.2.2.2.2.2.1.1.2 t0 _ ht).1 (hK h a).2 (fun j => .int (hI h a j))) (fun q => by cases q) (by show ¬ (i < 0 ∨ (arrV _ _ _).slots.size ≤ _); rw [arrV_size]; exact hin) rfl rfl hd fun H1 e1 z oq => ?_
      refine kx.2 b1 b2 hL p e s m args below meth c H1 _ ls F (hRH.upd h4 rfl (fun _ => rfl) (fun b hb => ⟨uI_row hb, rfl, rfl⟩) z oq ?_) (hS.put z oq (ad_fr h4)) hl
      rw [cel_arr (h := uI h a i.toNatClampNeg (x &&& 1)) (d := 2) hk (by omega)]
      show H1[ad E a]? = some (arrV (eA E 2) (hK h a).2 (fun j => .int (hI (uI h a i.toNatClampNeg (x &&& 1)) a j)))
      rw [e1]
      show some ((arrV (eA E 2) (hK h a).2 (fun j => .int (hI h a j))).setSlot _ (.int (x &&& 1))) = _
      rw [arrV_store]
      congr 2
      funext q
      show updV _ _ _ q = Value.int (hI (uI h a i.toNatClampNeg (x &&& 1)) a q)
      rw [hI_uI]
      by_cases hq : q = i.toNatClampNeg
      · simp [updV, hq]
      · simp [updV, hq]
  · cases hg
theorem ax_bast {a : Nat} {i x : Int32} (hd : decode mi.2.1 pc = .ok (.bastore, 1)) (hg : wB h a i x = some h') (kx : AW l E mi R B Qf (pc + 1) L st h') : AW l E mi R B Qf pc L (.int x :: .int i :: va_rf (some a) :: st) h := by
  unfold wB at hg
  split at hg
  · rename_i h4
    cases eq : ix 3 h a i with
    | none => rw [eq] at hg; cases hg
    | some j =>
      rw [eq] at hg
      cases hg
      obtain ⟨hk, hin, rfl⟩ := ix_of eq
      refine ⟨kx.1, fun b1 b2 hL p e s m args below meth c H locs ls F hRH hS hl => ?_⟩
      have hrow := hRH.row h4 (d := 3) (by omega) (by omega) hk
      obtain ⟨t0, ht⟩ := tys_at E (d := 3) (by decide)
      refine W.bast F.1 F.2.1 hrow ((F.2.2.2.2.2.2.2.2.1.1.2 t0 _ ht).1 (hK h a).2 (fun j => .int (hI h a j))) (fun q => by cases q) (by show ¬ (i < 0 ∨ (arrV _ _ _).slots.size ≤ _); rw [arrV_size]; exact hin) rfl rfl hd fun H1 e1 z oq => ?_
      refine kx.2 b1 b2 hL p e s m args below meth c H1 _ ls F (hRH.upd h4 rfl (fun _ => rfl) (fun b hb => ⟨uI_row hb, rfl, rfl⟩) z oq ?_) (hS.put z oq (ad_fr h4)) hl
      rw [cel_arr (h := uI h a i.toNatClampNeg x.toInt8.toInt32) (d := 3) hk (by omega)]
      show H1[ad E a]? = some (arrV (eA E 3) (hK h a).2 (fun j => .int (hI (uI h a i.toNatClampNeg x.toInt8.toInt32) a j)))
      rw [e1]
      show some ((arrV (eA E 3) (hK h a).2 (fun j => .int (hI h a j))).setSlot _ (.int x.toInt8.toInt32)) = _
      rw [arrV_store]
      congr 2
      funext q
      show updV _ _ _ q = Value.int (hI (uI h a i.toNatClampNeg x.toInt8.toInt32) a q)
      rw [hI_uI]
      by_cases hq : q = i.toNatClampNeg
      · simp [updV, hq]
      · simp [updV, hq]
  · cases hg
theorem ax_last {a : Nat} {i : Int32} {x : Int64} (hd : decode mi.2.1 pc = .ok (.lastore, 1)) (hg : wJ h a i x = some h') (kx : AW l E mi R B Qf (pc + 1) L st h') : AW l E mi R B Qf pc L (.long x :: .int i :: va_rf (some a) :: st) h := by
  unfold wJ at hg
  split at hg
  · rename_i h4
    cases eq : ix 4 h a i with
    | none => rw [eq] at hg; cases hg
    | some j =>
      rw [eq] at hg
      cases hg
      obtain ⟨hk, hin, rfl⟩ := ix_of eq
      refine ⟨kx.1, fun b1 b2 hL p e s m args below meth c H locs ls F hRH hS hl => ?_⟩
      have hrow := hRH.row h4 (d := 4) (by omega) (by omega) hk
      obtain ⟨t0, ht⟩ := tys_at E (d := 4) (by decide)
      refine W.last F.1 F.2.1 hrow ((F.2.2.2.2.2.2.2.2.1.1.2 t0 _ ht).1 (hK h a).2 (fun j => .long (hJ h a j))) (fun q => by cases q) (by show ¬ (i < 0 ∨ (arrV _ _ _).slots.size ≤ _); rw [arrV_size]; exact hin) rfl rfl hd fun H1 e1 z oq => ?_
      refine kx.2 b1 b2 hL p e s m args below meth c H1 _ ls F (hRH.upd h4 rfl (fun _ => rfl) (fun b hb => ⟨rfl, uJ_row hb, rfl⟩) z oq ?_) (hS.put z oq (ad_fr h4)) hl
      rw [cel_arr (h := uJ h a i.toNatClampNeg x) (d := 4) hk (by omega)]
      show H1[ad E a]? = some (arrV (eA E 4) (hK h a).2 (fun j => .long (hJ (uJ h a i.toNatClampNeg x) a j)))
      rw [e1]
      show some ((arrV (eA E 4) (hK h a).2 (fun j => .long (hJ h a j))).setSlot _ _) = _
      rw [arrV_store]
      congr 2
      funext q
      show updV _ _ _ q = Value.long (hJ (uJ h a i.toNatClampNeg x) a q)
      rw [hJ_uJ]
      by_cases hq : q = i.toNatClampNeg
      · simp [updV, hq]
      · simp [updV, hq]
  · cases hg
theorem ax_aast {a c v : Nat} {C : String} {T : u_T} {N : Nat} {i : Int32} (hc : 10 + c ∈ kds) (hc2 : Nat.blt c 50 = true) (hC : kty (10 + c) = .object C) (hcl : zcl[c]? = some (C, T, N)) (hd : decode mi.2.1 pc = .ok (.aastore, 1)) (hg : wR c h a i (some v) = some h') (kx : AW l E mi R B Qf (pc + 1) L st h') : AW l E mi R B Qf pc L (va_rf (some v) :: .int i :: va_rf (some a) :: st) h := by
  unfold wR at hg
  split at hg
  · rename_i hv0
    have hv : hK h v = (100 + c, 0) := hv0 v rfl
    cases eq : ix (10 + c) h a i with
    | none => rw [eq] at hg; cases hg
    | some j =>
      rw [eq] at hg
      cases hg
      obtain ⟨hk, hin, rfl⟩ := ix_of eq
      have hc3 := Nat.le_of_ble_eq_true hc2
      refine ⟨kx.1, fun b1 b2 hL p e s m args below meth cc H locs ls F hRH hS hl => ?_⟩
      have h4 := hRH.not4 (by omega) (by omega) hk
      have hrow := hRH.row h4 (d := 10 + c) (by omega) (by omega) hk
      rw [arr_ref (by omega)] at hrow
      obtain ⟨t0, ht⟩ := tys_at E hc
      rw [hC] at ht
      have hlt : i.toNatClampNeg < (hK h a).2 := Nat.not_le.mp fun q => hin (Or.inr q)
      have h0 : ¬ i < 0 := fun q => hin (Or.inl q)
      obtain ⟨r', hr', cellV, g1, g2, g3, -⟩ := hRH.obj hv
      have hKK := F.2.2.2.2.2.2.2.2.1.1
      have hcls := (hKK.1 c _ hcl).2
      obtain ⟨kA, comp, k1, k2, k3, -⟩ := (hKK.2 t0 _ ht).2
      have hcomp : comp = (eD E).1 c := Option.some.inj (k3.symm.trans hcls.1)
      subst hcomp
      obtain ⟨kC, hkC, -⟩ := hcls.2
      refine W.aast F.1 F.2.1 hrow (fun q h => by cases h) (fun h => by cases h) k1 k2 rfl hkC ⟨h0, by show _ < (arrV _ _ _).slots.size; rw [arrV_size]; exact hlt⟩ g1 (fun q h => by rw [g3] at h; cases h) (by rw [g2]; exact hkC) (by rw [g2]; exact va_assign hcls) rfl rfl hd fun H1 e1 z oq => ?_
      refine kx.2 b1 b2 hL p e s m args below meth cc H1 _ ls F (hRH.upd h4 rfl (fun _ => rfl) (fun b hb => ⟨rfl, rfl, uR_row hb⟩) z oq ?_) (hS.put z oq (ad_fr h4)) hl
      rw [cel_arr (h := uR h a i.toNatClampNeg (some v)) (d := 10 + c) hk (by omega), arr_ref (by omega)]
      show H1[ad E a]? = some (arrV (eA E (10 + c)) (hK h a).2 (fun j => va_rf ((hR (uR h a i.toNatClampNeg (some v)) a j).map (ad E))))
      rw [e1]
      show some ((arrV (eA E (10 + c)) (hK h a).2 (fun j => va_rf ((hR h a j).map (ad E)))).setSlot _ _) = _
      rw [arrV_store]
      congr 2
      funext q
      show updV _ _ _ q = va_rf ((hR (uR h a i.toNatClampNeg (some v)) a q).map (ad E))
      rw [hR_uR]
      by_cases hq : q = i.toNatClampNeg
      · simp [updV, hq, va_rf]
      · simp [updV, hq]
  · cases hg
/-- a new cell stands -/
theorem RH.grow {H H1 : Heap} {q : Nat × Nat} {n : Nat} (hRH : RH E h H) (z : H1.size = H.size + 1) (oq : ∀ x : Nat, x < H.size → H1[x]? = H[x]?) (hat : va_at (eD E) zcl (ad E (hM h), cel E (uN' h q n) (hM h)) H1) : RH E (uN' h q n) H1 := by
  obtain ⟨g1, g2, g3, g4, g5, g6⟩ := hRH
  have hne : ∀ b, b ≠ hM h → hK (uN' h q n) b = hK h b ∧ hI (uN' h q n) b = hI h b ∧ hJ (uN' h q n) b = hJ h b ∧ hR (uN' h q n) b = hR h b := by
    intro b hb
    have hb' : ¬ b = h.1 := hb
    refine ⟨?_, ?_, ?_, ?_⟩
    · show (if b = h.1 then q else _) = _; rw [if_neg hb']; rfl
    · funext y; show (if b = h.1 then (0 : Int32) else _) = _; rw [if_neg hb']; rfl
    · funext y; show (if b = h.1 then (0 : Int64) else _) = _; rw [if_neg hb']; rfl
    · funext y; show (if b = h.1 then (none : Option Nat) else _) = _; rw [if_neg hb']; rfl
  have hm : hM (uN' h q n) = hM h + 1 := rfl
  refine ⟨by omega, by rw [z, g2, hm]; omega, fun b b4 bM => ?_, fun b bM => ?_, fun b b4 => ?_, fun b b4 => ?_⟩
  · by_cases e : b = hM h
    · subst e; exact hat
    · obtain ⟨e0, e1, e2, e3⟩ := hne b e
      rw [cel_eq e0 e1 e2 e3]
      have h3 := g3 b b4 (by omega)
      exact h3.kept (oq _ (by rw [g2]; show ad E b < _; rw [ad_ge b4]; omega))
  · rw [(hne b (by omega)).1]; exact g4 b (by omega)
  · obtain ⟨e0, e1, e2, -⟩ := hne b (by omega)
    rw [e0, e1, e2]
    exact g5 b b4
  · rw [(hne b (by omega)).1]; exact g6 b b4
theorem RH.next {H : Heap} (hRH : RH E h H) : H.size = ad E (hM h) := by rw [hRH.2.1, ad_ge hRH.1]
theorem va_S.grow {A : Nat → Prop} {H0 H H1 : Heap} {locs : List Loc} (hS : va_S A H0 H locs) (z : H1.size = H.size + 1) (oq : ∀ x : Nat, x < H.size → H1[x]? = H[x]?) : va_S A H0 H1 locs := ⟨Nat.le_trans hS.1 (by omega), fun x h1 h2 => (oq x (Nat.lt_of_lt_of_le h1 hS.1)).trans (hS.2.1 x h1 h2), hS.2.2⟩
theorem ax_new {idx ci : Nat} {C : String} {T : u_T} {N : Nat} (hcl : zcl[ci]? = some (C, T, N)) (hci : Nat.blt ci 13 = true) (hw : Cond.classLink mi.1.cls idx C ∈ zgw) (hd : decode mi.2.1 pc = .ok (.new idx, 3)) (kx : AW l E mi R B Qf (pc + 3) L (va_rf (some (hM h)) :: st) (nO ci h)) : AW l E mi R B Qf pc L st h := by
  obtain ⟨i1, i2, i3, i4, i5, i6, i7⟩ := zall ci _ hcl
  have i5 : znf ci = N := i5
  have hm : hM (nO ci h) = hM h + 1 := rfl
  have hz : hZ (nO ci h) = hZ h + znf ci := rfl
  obtain ⟨⟨c1, c2, c3, c4⟩, kx⟩ := kx
  refine ⟨⟨by omega, by omega, c3, c4⟩, fun b1 b2 hL p e s m args below meth c H locs ls F hRH hS hl => ?_⟩
  have hts := F.2.2.2.2.2.2.2.1
  have hKK := F.2.2.2.2.2.2.2.2.1.1
  have hKn := hKK.1 ci _ hcl
  refine W.newcK F.1 F.2.1 F.2.2.2.2.2.1 (hts _ hw) (hts _ i6) (hts _ i7) rfl hd (by omega) (by show hZ h - B.1.2 + N ≤ _; omega) hKn.2.1 rfl fun H1 kC hkC e1 z1 o1 => ?_
  have hR1 : RH E (nO ci h) H1 := by
    refine hRH.grow z1 o1 ?_
    have ec : cel E (nO ci h) (hM h) = .inr (ci, fls E (nO ci h) (hM h) ci) := by
      have ek : hK (nO ci h) (hM h) = (100 + ci, 0) := by show (if h.1 = h.1 then (100 + ci, 0) else _) = _; rw [if_pos rfl]
      unfold cel
      rw [ek]
      simp only
      rw [if_neg (by omega), show 100 + ci - 100 = ci by omega]
    show va_at (eD E) zcl (ad E (hM h), cel E (nO ci h) (hM h)) H1
    rw [ec, ← hRH.next]
    refine ⟨_, hcl, (u_born (zty ci) hts i1 hKn hkC e1 i3).to (fun j hj => ?_)⟩
    have hj2 : j < znf ci := by rw [i5]; exact hj
    rw [vpV_fls hj2]
    obtain ⟨s0, s1, s2, s3, s4⟩ := zso_int ci (by have := Nat.le_of_ble_eq_true hci; omega) j hj2
    have eI : hI (nO ci h) (hM h) j = 0 := by show (if h.1 = h.1 then (0 : Int32) else _) = _; rw [if_pos rfl]
    have eJ : hJ (nO ci h) (hM h) j = 0 := by show (if h.1 = h.1 then (0 : Int64) else _) = _; rw [if_pos rfl]
    have eR : hR (nO ci h) (hM h) j = none := by show (if h.1 = h.1 then (none : Option Nat) else _) = _; rw [if_pos rfl]
    rcases (show zso ci j = 0 ∨ zso ci j = 1 ∨ zso ci j = 2 ∨ zso ci j = 3 by omega) with q | q | q | q
    · rw [s0 q, q]; show Value.int 0 = Value.int (hI (nO ci h) (hM h) j); rw [eI]
    · rw [s1 q, q]; show Value.int 0 = Value.int (hI (nO ci h) (hM h) j); rw [eI]
    · rw [s2 q, q]; show Value.long 0 = Value.long (hJ (nO ci h) (hM h) j); rw [eJ]
    · have s3 := s3 q
      rw [q]
      show defaultValue (zty ci j) = va_rf ((hR (nO ci h) (hM h) j).map (ad E))
      rw [eR]
      generalize zty ci j = t at s3
      cases t <;> first | rfl | (exfalso; revert s3; decide)
  have kk := kx (by omega) (by omega) hL p e s m args below meth c H1 locs ls F hR1 (hS.grow z1 o1) hl
  rw [show hM (nO ci h) - B.1.1 = hM h - B.1.1 + 1 by omega, show hZ (nO ci h) - B.1.2 = hZ h - B.1.2 + N by omega] at kk
  rw [show H.size = ad E (hM h) from hRH.next]
  exact kk
end HA
end
section
/-! THE RULES of new arrays, static tables, natives, calls, returns, a method's start -/
def sname : Nat → String := fun j => match j with
  | 0 => "LEAST_TRAIT"
  | 1 => "GREATEST_TRAIT"
  | _ => "WITH_FACT"
def sdesc : Nat → String := fun j => match j with
  | 0 => "[I"
  | 1 => "[I"
  | _ => "[J"
theorem comp_le (t : FieldType) : componentBytes t ≤ 8 := by cases t <;> exact Nat.le_of_ble_eq_true rfl
theorem bytes_ok {N : Nat} (t : FieldType) (h : N ≤ 1000000) : N * componentBytes t ≤ 536870912 := by
  have h1 := comp_le t
  have h2 : N * componentBytes t ≤ N * 8 := Nat.mul_le_mul_left N h1
  omega
section HC
variable {l : Launch} {E : EN} {mi : MI} {R : Room} {B : (Nat × Nat) × (Nat × Nat)} {Qf : QF} {pc : Nat} {L : List (Option Value)} {st : List Value} {h h' : AH}
theorem nAr_of {d : Nat} {n : Int32} (hg : nAr d h n = some h') : ¬ n < 0 ∧ n.toNatClampNeg ≤ 1000000 ∧ h' = uN' h (d, n.toNatClampNeg) n.toNatClampNeg := by
  unfold nAr at hg; split at hg
  · rename_i q
    exact ⟨q.1, q.2, (Option.some.inj hg).symm⟩
  · cases hg
theorem cel_new {d N : Nat} (hd : d < 100) : cel E (uN' h (d, N) N) (hM h) = .inl (eA E d, N, arr E (uN' h (d, N) N) (hM h) d) := by
  have ek : hK (uN' h (d, N) N) (hM h) = (d, N) := by show (if h.1 = h.1 then (d, N) else _) = _; rw [if_pos rfl]
  unfold cel
  rw [ek]
  simp only
  rw [if_pos hd]
theorem ax_newa {d : Nat} {atype : ArrayType} {n : Int32} (hd4 : d = 1 ∨ d = 2 ∨ d = 3 ∨ d = 4) (hat : newarray.typeOf atype = kty d) (hw : Cond.arrayClass (kty d) ∈ zgw) (hd : decode mi.2.1 pc = .ok (.newarray atype, 2)) (hg : nAr d h n = some h') (kx : AW l E mi R B Qf (pc + 2) L (va_rf (some (hM h)) :: st) h') : AW l E mi R B Qf pc L (.int n :: st) h := by
  obtain ⟨hn, hN, rfl⟩ := nAr_of hg
  generalize eN : n.toNatClampNeg = N at hN kx
  have hm : hM (uN' h (d, N) N) = hM h + 1 := rfl
  have hz : hZ (uN' h (d, N) N) = hZ h + N := rfl
  obtain ⟨⟨c1, c2, c3, c4⟩, kx⟩ := kx
  refine ⟨⟨by omega, by omega, c3, c4⟩, fun b1 b2 hL p e s m args below meth c H locs ls F hRH hS hl => ?_⟩
  have hts := F.2.2.2.2.2.2.2.1
  have hKK := F.2.2.2.2.2.2.2.2.1.1
  refine va_newaK F.1 F.2.1 (by rw [hat]; exact hts _ hw) rfl hd rfl hn eN (bytes_ok _ hN) (by omega) (by omega) rfl fun H1 cA e1 z1 o1 hAr hNm => ?_
  have hmem : d ∈ kds := by rcases hd4 with rfl | rfl | rfl | rfl <;> decide
  obtain ⟨t0, ht⟩ := tys_at E hmem
  have hra := (hKK.2 t0 _ ht).2
  rw [hat] at hNm e1
  have hcA : cA = eA E d := by
    have h9 : s.vm.findClass ("[" ++ (kty d).toString) = some (eA E d) := by
      rcases hd4 with rfl | rfl | rfl | rfl <;> exact hra
    exact Option.some.inj (hNm.symm.trans h9)
  subst hcA
  have hR1 : RH E (uN' h (d, N) N) H1 := by
    refine hRH.grow z1 o1 ?_
    rw [cel_new (by rcases hd4 with rfl | rfl | rfl | rfl <;> omega), ← hRH.next]
    show H1[H.size]? = some (vp_cell _ _)
    rw [e1]
    have eI : hI (uN' h (d, N) N) (hM h) = fun _ => 0 := by funext j; show (if h.1 = h.1 then (0 : Int32) else _) = _; rw [if_pos rfl]
    have eJ : hJ (uN' h (d, N) N) (hM h) = fun _ => 0 := by funext j; show (if h.1 = h.1 then (0 : Int64) else _) = _; rw [if_pos rfl]
    unfold arr
    rw [eI, eJ]
    rcases hd4 with rfl | rfl | rfl | rfl <;> rfl
  have kk := kx (by omega) (by omega) hL p e s m args below meth c H1 locs ls F hR1 (hS.grow z1 o1) hl
  rw [show hM (uN' h (d, N) N) - B.1.1 = hM h - B.1.1 + 1 by omega, show hZ (uN' h (d, N) N) - B.1.2 = hZ h - B.1.2 + N by omega] at kk
  rw [show H.size = ad E (hM h) from hRH.next]
  exact kk
theorem ax_anew {idx c : Nat} {C : String} {n : Int32} (hc : 10 + c ∈ kds) (hc2 : Nat.blt c 50 = true) (hC : kty (10 + c) = .object C) (hao : C ∈ zao) (hw : Cond.classLink mi.1.cls idx C ∈ zgw) (hd : decode mi.2.1 pc = .ok (.anewarray idx, 3)) (hg : nAr (10 + c) h n = some h') (kx : AW l E mi R B Qf (pc + 3) L (va_rf (some (hM h)) :: st) h') : AW l E mi R B Qf pc L (.int n :: st) h := by
  obtain ⟨hn, hN, rfl⟩ := nAr_of hg
  have hc3 := Nat.le_of_ble_eq_true hc2
  have hm : hM (uN' h (10 + c, n.toNatClampNeg) n.toNatClampNeg) = hM h + 1 := rfl
  have hz : hZ (uN' h (10 + c, n.toNatClampNeg) n.toNatClampNeg) = hZ h + n.toNatClampNeg := rfl
  obtain ⟨⟨c1, c2, c3, c4⟩, kx⟩ := kx
  refine ⟨⟨by omega, by omega, c3, c4⟩, fun b1 b2 hL p e s m args below meth cc H locs ls F hRH hS hl => ?_⟩
  have hts := F.2.2.2.2.2.2.2.1
  have hKK := F.2.2.2.2.2.2.2.2.1.1
  refine W.anew F.1 F.2.1 F.2.2.2.2.2.1 (hts _ hw) (va_AO.use (F.2.2.2.2.2.2.2.2.1.2.2.2.2.2 C hao)) rfl hd rfl hn (by omega) (by omega) (by omega) fun cA kA comp f1 f2 f3 f4 => ?_
  generalize hH1 : H.push ({ cls := cA, slots := Array.replicate n.toNatClampNeg .null, vm := .none } : Cell) = H1
  have z1 : H1.size = H.size + 1 := by rw [← hH1, Array.size_push]
  have e1 : H1[H.size]? = some (arrV cA n.toNatClampNeg (fun _ => .null)) := by rw [← hH1, Array.getElem?_push_size, ← arrV_new]
  have o1 : ∀ q : Nat, q < H.size → H1[q]? = H[q]? := fun q hq => by rw [← hH1, Array.getElem?_push, if_neg (Nat.ne_of_lt hq)]
  obtain ⟨t0, ht⟩ := tys_at E hc
  rw [hC] at ht
  obtain ⟨kA2, comp2, -, -, -, f5⟩ := (hKK.2 t0 _ ht).2
  have hcA : cA = eA E (10 + c) := Option.some.inj (f1.symm.trans f5)
  subst hcA
  have hR1 : RH E (uN' h (10 + c, n.toNatClampNeg) n.toNatClampNeg) H1 := by
    refine hRH.grow z1 o1 ?_
    rw [cel_new (by omega), arr_ref (by omega), ← hRH.next]
    show H1[H.size]? = some (vp_cell _ _)
    rw [e1, vp_cell_q]
    have eR : hR (uN' h (10 + c, n.toNatClampNeg) n.toNatClampNeg) (hM h) = fun _ => none := by funext j; show (if h.1 = h.1 then (none : Option Nat) else _) = _; rw [if_pos rfl]
    rw [eR]
    rfl
  have kk := kx (by omega) (by omega) hL p e s m args below meth cc H1 locs ls F hR1 (hS.grow z1 o1) hl
  rw [show hM (uN' h (10 + c, n.toNatClampNeg) n.toNatClampNeg) - B.1.1 = hM h - B.1.1 + 1 by omega, show hZ (uN' h (10 + c, n.toNatClampNeg) n.toNatClampNeg) - B.1.2 = hZ h - B.1.2 + n.toNatClampNeg by omega] at kk
  rw [show H.size = ad E (hM h) from hRH.next]
  exact kk
theorem ax_gets {idx j : Nat} (hj : Nat.blt j 3 = true) (hw : Cond.fieldLink mi.1.cls idx "HelperWeave" (sname j) (sdesc j) ∈ zgw ∨ ∃ host, Cond.fieldLinkNest mi.1.cls idx "HelperWeave" (sname j) (sdesc j) host ∈ znw) (hd : decode mi.2.1 pc = .ok (.getstatic idx, 3)) (kx : AW l E mi R B Qf (pc + 3) L (va_rf (some j) :: st) h) : AW l E mi R B Qf pc L st h := by
  have hj := Nat.le_of_ble_eq_true hj
  refine ⟨kx.1, fun b1 b2 hL p e s m args below meth c H locs ls F hRH hS hl => ?_⟩
  have kk := kx.2 b1 b2 hL p e s m args below meth c H locs ls F hRH hS hl
  obtain ⟨z1, z2, z3⟩ := F.2.2.2.2.2.2.2.2.1.2.2.1
  have hZ : va_Z "HelperWeave" (sname j) (sdesc j) (.ref (ad E j)) (fr E) s s.heap := by
    rw [ad_lo (by omega)]
    rcases (show j = 0 ∨ j = 1 ∨ j = 2 by omega) with rfl | rfl | rfl
    · exact z1
    · exact z2
    · exact z3
  rcases hw with hw | ⟨host, hw⟩
  · exact va_gets F.1 F.2.1 hZ hS F.2.2.2.2.2.1 (F.2.2.2.2.2.2.2.1 _ hw) (fun x hx => hx) hd kk
  · exact va_getsN F.1 F.2.1 hZ hS F.2.2.2.2.2.1 (va_Nw.use rfl (F.2.2.2.2.2.2.2.2.1.2.1 _ hw)) (fun x hx => hx) hd kk
theorem ax_objInit {idx a : Nat} (hw : Cond.methodLink mi.1.cls idx Lib.objectInit ∈ zgw) (hi : Cond.instanceMethod Lib.objectInit ∈ zgw) (hc : Cond.code Lib.objectInit ⟨#[0xb1]⟩ 1 none ∈ zgw) (hR1 : 1 ≤ R.frames) (hR2 : 64 ≤ R.locals) (hs : (st.map fun v => v.category).sum ≤ 8) (hd : decode mi.2.1 pc = .ok (.invokespecial idx, 3)) (kx : AW l E mi R B Qf (pc + 3) L st h) : AW l E mi R B Qf pc L (va_rf (some a) :: st) h := by
  refine ⟨kx.1, fun b1 b2 hL p e s m args below meth c H locs ls F hRH hS hl => ?_⟩
  have hts := F.2.2.2.2.2.2.2.1
  refine W.objInit F.1 F.2.1 F.2.2.2.2.2.1 (hts _ hw) (hts _ hi) (hts _ hc) rfl (by show ls.size = _; rw [hl.1, hL, F.2.2.1]) rfl hd hR1 ?_ (kx.2 b1 b2 hL p e s m args below meth c H locs ls F hRH hS hl)
  show 2 * 0 + _ + 12 ≤ _
  rw [vr_sum]
  omega
theorem ax_mmax {idx : Nat} {x y : Int32} (hw : Cond.methodLink mi.1.cls idx Lib.Math.max.name ∈ zgw) (hst : Cond.static Lib.Math.max.name ∈ zgw) (hi : Cond.initialized "java/lang/Math" ∈ zgw) (hc : Cond.code Lib.Math.max.name Lib.Math.max.code 2 (some .int) ∈ zgw) (hR1 : 1 ≤ R.frames) (hR2 : 64 ≤ R.locals) (hs : (st.map fun v => v.category).sum ≤ 8) (hd : decode mi.2.1 pc = .ok (.invokestatic idx, 3)) (kx : AW l E mi R B Qf (pc + 3) L (.int (if x < y then y else x) :: st) h) : AW l E mi R B Qf pc L (.int y :: .int x :: st) h := by
  refine ⟨kx.1, fun b1 b2 hL p e s m args below meth c H locs ls F hRH hS hl => ?_⟩
  obtain ⟨c1, c2, c3, c4⟩ := kx.1
  have hts := F.2.2.2.2.2.2.2.1
  refine va_mmax F.1 F.2.1 (by rw [hl.1, hL, F.2.2.1]) F.2.2.2.2.2.1 (hts _ hw) (hts _ hst) (hts _ hi) (hts _ hc) hR1 ?_ (by omega) (by omega) hd (kx.2 b1 b2 hL p e s m args below meth c H locs ls F hRH hS hl)
  rw [vr_sum]
  omega
theorem ax_mmin {idx : Nat} {x y : Int32} (hw : Cond.methodLink mi.1.cls idx Lib.Math.min.name ∈ zgw) (hst : Cond.static Lib.Math.min.name ∈ zgw) (hi : Cond.initialized "java/lang/Math" ∈ zgw) (hc : Cond.code Lib.Math.min.name Lib.Math.min.code 2 (some .int) ∈ zgw) (hR1 : 1 ≤ R.frames) (hR2 : 64 ≤ R.locals) (hs : (st.map fun v => v.category).sum ≤ 8) (hd : decode mi.2.1 pc = .ok (.invokestatic idx, 3)) (kx : AW l E mi R B Qf (pc + 3) L (.int (if y < x then y else x) :: st) h) : AW l E mi R B Qf pc L (.int y :: .int x :: st) h := by
  refine ⟨kx.1, fun b1 b2 hL p e s m args below meth c H locs ls F hRH hS hl => ?_⟩
  obtain ⟨c1, c2, c3, c4⟩ := kx.1
  have hts := F.2.2.2.2.2.2.2.1
  refine va_mmin F.1 F.2.1 (by rw [hl.1, hL, F.2.2.1]) F.2.2.2.2.2.1 (hts _ hw) (hts _ hst) (hts _ hi) (hts _ hc) hR1 ?_ (by omega) (by omega) hd (kx.2 b1 b2 hL p e s m args below meth c H locs ls F hRH hS hl)
  rw [vr_sum]
  omega
/-! calls -/
theorem wx_call {p : Program} {e : Env} {s : State} {m : MethodId} {args av : Array Value} {below : List Frame} {meth : Method} {c : Code} {H : Heap} {locs : List Loc} {cells slots mc ms : Nat} {Q : State → Prop} {ls : Array Slot} {st0 rest : List Value} {rf : Option Value} {hf : AH}
    (hr : va_Run p l e R s m args below meth c H locs cells slots mc ms (F0 m pc ls st0) rest (Qc E rf hf av) (fr E)) (hS : va_S (fr E) s.heap H locs)
    (kk : ∀ (H1 : Heap) (locs1 : List Loc), RH E hf H1 → va_S (fr E) s.heap H1 locs1 → W p l e R s m args below meth c H1 locs1 (cells + mc) (slots + ms) Q (F0 m (pc + 3) ls ((rf.map (vr E)).toList ++ rest))) : W p l e R s m args below meth c H locs cells slots Q (F0 m pc ls st0) := by
  intro T hT X
  obtain ⟨v, st₀, t, T', L, h0, X', hL, e1, e2, ⟨hv, hb, hz, hk⟩, st⟩ := hr T hT X
  have hv : v = rf.map (vr E) := by cases hv; rfl
  subst hv
  rw [h0] at hz hk
  obtain ⟨t2, a1, b1⟩ := kk T'.heap (locs ++ L) (by rw [e1]; exact hb)
    ⟨Nat.le_trans hS.1 (by rw [e1]; exact hz), fun q h1 h2 => by rw [e1, hk q (Nat.lt_of_lt_of_le h1 hS.1) h2]; exact hS.2.1 q h1 h2, fun q hq => by
      rcases List.mem_append.mp hq with h | h
      · exact hS.2.2 q h
      · exact hL q h⟩ T' rfl X'
  exact ⟨t2, st t2 a1, b1⟩
/-- what the words must say of a method that is called: n its parameters -/
def CMd (mi2 : MI) (n : Nat) : Prop := Cond.initialized mi2.1.cls ∈ zgw ∧ Cond.code mi2.1 mi2.2.1 mi2.2.2.1 mi2.2.2.2 ∈ zgw ∧ mi2.1.cls ≠ "java/lang/invoke/MethodHandle" ∧ mi2.1.cls ≠ "java/lang/invoke/VarHandle" ∧ (parseMethodDescriptor mi2.1.desc).map (fun d => d.parameters.length) = some n
def CMv (mi2 : MI) (n : Nat) : Prop := CMd mi2 n ∧ Cond.instanceMethod mi2.1 ∈ zgw ∧ Cond.selects mi2.1.cls mi2.1 mi2.1 ∈ zgw
def CMs (mi2 : MI) (n : Nat) : Prop := CMd mi2 n ∧ Cond.static mi2.1 ∈ zgw
def CMi (mi2 : MI) (n : Nat) : Prop := CMd mi2 n ∧ mi2.1.name = "<init>" ∧ Cond.instanceMethod mi2.1 ∈ zgw
def ML (own : String) (idx : Nat) (y : MethodName) : Prop := Cond.methodLink own idx y ∈ zgw ∨ ∃ host, Cond.methodLinkNest own idx y host ∈ znw
theorem zgood_c {y : MethodName} {b : ByteArray} {n : Nat} {r : Option FieldType} (h : Cond.code y b n r ∈ zgw) : GoodIn zgw (Cond.code y b n r :: zgw) := by
  intro w hw
  rcases List.mem_cons.mp hw with rfl | hw
  · exact zgood _ h
  · exact zgood w hw
theorem blindP {av : List Value} : FrameBlind (Pc E av h) := fun a U g mk q => ⟨q.1, q.2.1.blind a g mk, q.2.2⟩
theorem callOK {mi2 : MI} {d n mc ms : Nat} {hf : AH} {s : State} {args : Array Value} (hts : ∀ w ∈ zgw, w.before args s = true) (cm : CMd mi2 n) (hfr : d + 1 ≤ R.frames) (hlo : 8 + (mi2.2.2.1 + 11) + 64 * d ≤ R.locals) (e1 : mc = hM hf - hM h) (e2 : ms = hZ hf - hZ h) :
    ((rmOf d (bOf h hf)).cells = mc ∧ (rmOf d (bOf h hf)).slots = ms ∧ (rmOf d (bOf h hf)).frames + 1 ≤ R.frames ∧ 8 + (mi2.2.2.1 + 11) + (rmOf d (bOf h hf)).locals ≤ R.locals ∧ (∀ w ∈ (Cond.code mi2.1 mi2.2.1 mi2.2.2.1 mi2.2.2.2 :: zgw), ∀ (a' : Array Value) (U : State), s.WarmedH U.vm → w.before a' U = true) ∧ Cond.code mi2.1 mi2.2.1 mi2.2.2.1 mi2.2.2.2 ∈ (Cond.code mi2.1 mi2.2.1 mi2.2.2.1 mi2.2.2.2 :: zgw)) ∧
    (Cond.code mi2.1 mi2.2.1 mi2.2.2.1 mi2.2.2.2).before args s = true ∧ (Cond.initialized mi2.1.cls).before args s = true ∧ (mi2.1.cls ≠ "java/lang/invoke/MethodHandle" ∧ mi2.1.cls ≠ "java/lang/invoke/VarHandle") ∧ (∀ sig, parseMethodDescriptor mi2.1.desc = some sig → n = sig.parameters.length) := by
  obtain ⟨g1, g2, g3, g4, g5⟩ := cm
  refine ⟨⟨e1.symm, e2.symm, hfr, hlo, pay_in hts (zgood_c g2), List.mem_cons_self⟩, hts _ g2, hts _ g1, ⟨g3, g4⟩, fun sig hs => ?_⟩
  rw [hs] at g5
  exact (Option.some.inj g5).symm
theorem ax_callV {mi2 : MI} {idx d n ci b : Nat} {As rest stk : List Value} {rf : Option Value} {hf : AH} {T : u_T} {N : Nat} (hA : AM l E d mi2 (va_rf (some b) :: As) h rf hf) (ml : ML mi.1.cls idx mi2.1) (cm : CMv mi2 n) (hcl : zcl[ci]? = some (mi2.1.cls, T, N)) (hk : hK h b = (100 + ci, 0)) (hfr : d + 1 ≤ R.frames) (hlo : 8 + (mi2.2.2.1 + 11) + 64 * d ≤ R.locals) (hn : As.length = n) (hs : stk = As.reverse ++ va_rf (some b) :: rest) (hr8 : (rest.map fun v => v.category).sum ≤ 8) (hd : decode mi.2.1 pc = .ok (.invokevirtual idx, 3)) (kx : AW l E mi R B Qf (pc + 3) L (rf.toList ++ rest) hf) : AW l E mi R B Qf pc L stk h := by
  subst hs
  obtain ⟨⟨m1, m2⟩, hM0⟩ := hA
  obtain ⟨⟨c1, c2, c3, c4⟩, kx⟩ := kx
  refine ⟨⟨by omega, by omega, c3, c4⟩, fun b1 b2 hL p e s m args below meth c H locs ls F hRH hS hl => ?_⟩
  have hts := F.2.2.2.2.2.2.2.1
  have ok := callOK (h := h) (hf := hf) (R := R) hts cm.1 hfr hlo rfl rfl
  have fix : CallFix p m c mi.2.1 mi.2.2.1 s args zgw mi.1.cls := ⟨F.1, F.2.1, F.2.2.1, F.2.2.2.2.2.1, hts⟩
  have hrecv : ∃ cellB : Cell, H[ad E b]? = some cellB ∧ cellB.vm.isStatics = false ∧ s.vm.findClass mi2.1.cls = some cellB.cls := va_recv F.2.2.2.2.2.2.2.2.1.1 (vat_one (hRH.obj hk)) hcl (q0 := 0) rfl
  have hp : PreV s H mi2.1.cls (ad E b) (Pc E (va_rf (some b) :: As) h) (As.map (vr E)) := ⟨blindP, hrecv, fun U hU hW => ⟨rfl, RK.moved F.2.2.2.2.2.2.2.2.1 hS hU hW, by rw [hU]; exact hRH⟩⟩
  have hstk : (F0 m pc ls ((As.reverse ++ va_rf (some b) :: rest).map (vr E))).stack = (As.map (vr E)).reverse ++ .ref (ad E b) :: rest.map (vr E) := by
    show (As.reverse ++ va_rf (some b) :: rest).map (vr E) = _
    rw [List.map_append, List.map_reverse]; rfl
  have hrun : va_Run p l e R s m args below meth c H locs (hM h - B.1.1) (hZ h - B.1.2) (hM hf - hM h) (hZ hf - hZ h) (F0 m pc ls ((As.reverse ++ va_rf (some b) :: rest).map (vr E))) (rest.map (vr E)) (Qc E rf hf (Value.ref (ad E b) :: As.map (vr E)).toArray) (fr E) := by
    rcases ml with ml | ⟨host, ml⟩
    · exact va_runV fix hM0 ⟨⟨ok.1.1, ok.1.2.1, ok.1.2.2.1, ok.1.2.2.2.1, ok.1.2.2.2.2.1, ok.1.2.2.2.2.2, ok.2.1, ok.2.2.1, ok.2.2.2.1, ok.2.2.2.2, hts _ ml⟩, hts _ cm.2.1, hts _ cm.2.2⟩ hp rfl (by rw [List.length_map]; exact hn) (by show ls.size = _; rw [hl.1, hL]) hstk (by show 2 * 0 + _ ≤ 8; rw [vr_sum]; omega) hd ⟨by omega, by omega⟩
    · exact va_runVN fix hM0 ⟨⟨ok.1, ok.2.1, ok.2.2.1, ok.2.2.2.1, ok.2.2.2.2, va_Nw.use rfl (F.2.2.2.2.2.2.2.2.1.2.1 _ ml)⟩, hts _ cm.2.1, hts _ cm.2.2⟩ hp rfl (by rw [List.length_map]; exact hn) (by show ls.size = _; rw [hl.1, hL]) hstk (by show 2 * 0 + _ ≤ 8; rw [vr_sum]; omega) hd ⟨by omega, by omega⟩
  refine wx_call hrun hS (fun H1 locs1 g1 g2 => ?_)
  have kk := kx (by omega) (by omega) hL p e s m args below meth c H1 locs1 ls F g1 g2 hl
  rw [show hM hf - B.1.1 = hM h - B.1.1 + (hM hf - hM h) by omega, show hZ hf - B.1.2 = hZ h - B.1.2 + (hZ hf - hZ h) by omega, List.map_append] at kk
  rw [show (rf.map (vr E)).toList = rf.toList.map (vr E) by cases rf <;> rfl]
  exact kk
theorem ax_callI {mi2 : MI} {idx d n b : Nat} {As rest stk : List Value} {hf : AH} (hret : mi2.2.2.2 = none) (hA : AM l E d mi2 (va_rf (some b) :: As) h none hf) (ml : ML mi.1.cls idx mi2.1) (cm : CMi mi2 n) (hfr : d + 1 ≤ R.frames) (hlo : 8 + (mi2.2.2.1 + 11) + 64 * d ≤ R.locals) (hn : As.length = n) (hs : stk = As.reverse ++ va_rf (some b) :: rest) (hr8 : (rest.map fun v => v.category).sum ≤ 8) (hd : decode mi.2.1 pc = .ok (.invokespecial idx, 3)) (kx : AW l E mi R B Qf (pc + 3) L rest hf) : AW l E mi R B Qf pc L stk h := by
  subst hs
  obtain ⟨⟨m1, m2⟩, hM0⟩ := hA
  obtain ⟨⟨c1, c2, c3, c4⟩, kx⟩ := kx
  refine ⟨⟨by omega, by omega, c3, c4⟩, fun b1 b2 hL p e s m args below meth c H locs ls F hRH hS hl => ?_⟩
  have hts := F.2.2.2.2.2.2.2.1
  have ok := callOK (h := h) (hf := hf) (R := R) hts cm.1 hfr hlo rfl rfl
  rw [hret] at ok hM0
  have fix : CallFix p m c mi.2.1 mi.2.2.1 s args zgw mi.1.cls := ⟨F.1, F.2.1, F.2.2.1, F.2.2.2.2.2.1, hts⟩
  have hp : PreS s H (Pc E (va_rf (some b) :: As) h) (.ref (ad E b) :: As.map (vr E)) := ⟨blindP, fun U hU hW => ⟨rfl, RK.moved F.2.2.2.2.2.2.2.2.1 hS hU hW, by rw [hU]; exact hRH⟩⟩
  have hstk : (F0 m pc ls ((As.reverse ++ va_rf (some b) :: rest).map (vr E))).stack = (As.map (vr E)).reverse ++ .ref (ad E b) :: rest.map (vr E) := by
    show (As.reverse ++ va_rf (some b) :: rest).map (vr E) = _
    rw [List.map_append, List.map_reverse]; rfl
  have hrun : va_Run p l e R s m args below meth c H locs (hM h - B.1.1) (hZ h - B.1.2) (hM hf - hM h) (hZ hf - hZ h) (F0 m pc ls ((As.reverse ++ va_rf (some b) :: rest).map (vr E))) (rest.map (vr E)) (Qc E none hf (Value.ref (ad E b) :: As.map (vr E)).toArray) (fr E) := by
    rcases ml with ml | ⟨host, ml⟩
    · exact va_runI fix hM0 ⟨⟨ok.1.1, ok.1.2.1, ok.1.2.2.1, ok.1.2.2.2.1, ok.1.2.2.2.2.1, ok.1.2.2.2.2.2, ok.2.1, ok.2.2.1, ok.2.2.2.1, ok.2.2.2.2, hts _ ml⟩, cm.2.1, hts _ cm.2.2⟩ hp rfl (by rw [List.length_map]; exact hn) (by show ls.size = _; rw [hl.1, hL]) hstk (by show 2 * 0 + _ ≤ 8; rw [vr_sum]; omega) hd ⟨by omega, by omega⟩
    · exact va_runIN fix hM0 ⟨⟨ok.1, ok.2.1, ok.2.2.1, ok.2.2.2.1, ok.2.2.2.2, va_Nw.use rfl (F.2.2.2.2.2.2.2.2.1.2.1 _ ml)⟩, cm.2.1, hts _ cm.2.2⟩ hp rfl (by rw [List.length_map]; exact hn) (by show ls.size = _; rw [hl.1, hL]) hstk (by show 2 * 0 + _ ≤ 8; rw [vr_sum]; omega) hd ⟨by omega, by omega⟩
  refine wx_call hrun hS (fun H1 locs1 g1 g2 => ?_)
  have kk := kx (by omega) (by omega) hL p e s m args below meth c H1 locs1 ls F g1 g2 hl
  rw [show hM hf - B.1.1 = hM h - B.1.1 + (hM hf - hM h) by omega, show hZ hf - B.1.2 = hZ h - B.1.2 + (hZ hf - hZ h) by omega] at kk
  exact kk
theorem ax_callS {mi2 : MI} {idx d n : Nat} {As rest stk : List Value} {rf : Option Value} {hf : AH} (hA : AM l E d mi2 As h rf hf) (ml : ML mi.1.cls idx mi2.1) (cm : CMs mi2 n) (hfr : d + 1 ≤ R.frames) (hlo : 8 + (mi2.2.2.1 + 11) + 64 * d ≤ R.locals) (hn : As.length = n) (hs : stk = As.reverse ++ rest) (hr8 : (rest.map fun v => v.category).sum ≤ 8) (hd : decode mi.2.1 pc = .ok (.invokestatic idx, 3)) (kx : AW l E mi R B Qf (pc + 3) L (rf.toList ++ rest) hf) : AW l E mi R B Qf pc L stk h := by
  subst hs
  obtain ⟨⟨m1, m2⟩, hM0⟩ := hA
  obtain ⟨⟨c1, c2, c3, c4⟩, kx⟩ := kx
  refine ⟨⟨by omega, by omega, c3, c4⟩, fun b1 b2 hL p e s m args below meth c H locs ls F hRH hS hl => ?_⟩
  have hts := F.2.2.2.2.2.2.2.1
  have ok := callOK (h := h) (hf := hf) (R := R) hts cm.1 hfr hlo rfl rfl
  have fix : CallFix p m c mi.2.1 mi.2.2.1 s args zgw mi.1.cls := ⟨F.1, F.2.1, F.2.2.1, F.2.2.2.2.2.1, hts⟩
  have hp : PreS s H (Pc E As h) (As.map (vr E)) := ⟨blindP, fun U hU hW => ⟨rfl, RK.moved F.2.2.2.2.2.2.2.2.1 hS hU hW, by rw [hU]; exact hRH⟩⟩
  have hstk : (F0 m pc ls ((As.reverse ++ rest).map (vr E))).stack = (As.map (vr E)).reverse ++ rest.map (vr E) := by
    show (As.reverse ++ rest).map (vr E) = _
    rw [List.map_append, List.map_reverse]
  have hrun : va_Run p l e R s m args below meth c H locs (hM h - B.1.1) (hZ h - B.1.2) (hM hf - hM h) (hZ hf - hZ h) (F0 m pc ls ((As.reverse ++ rest).map (vr E))) (rest.map (vr E)) (Qc E rf hf (As.map (vr E)).toArray) (fr E) := by
    rcases ml with ml | ⟨host, ml⟩
    · exact va_runS fix hM0 ⟨⟨ok.1.1, ok.1.2.1, ok.1.2.2.1, ok.1.2.2.2.1, ok.1.2.2.2.2.1, ok.1.2.2.2.2.2, ok.2.1, ok.2.2.1, ok.2.2.2.1, ok.2.2.2.2, hts _ ml⟩, hts _ cm.2⟩ hp rfl (by rw [List.length_map]; exact hn) (by show ls.size = _; rw [hl.1, hL]) hstk (by show 2 * 0 + _ ≤ 8; rw [vr_sum]; omega) hd ⟨by omega, by omega⟩
    · exact va_runSN fix hM0 ⟨⟨ok.1, ok.2.1, ok.2.2.1, ok.2.2.2.1, ok.2.2.2.2, va_Nw.use rfl (F.2.2.2.2.2.2.2.2.1.2.1 _ ml)⟩, hts _ cm.2, trivial⟩ hp rfl (by rw [List.length_map]; exact hn) (by show ls.size = _; rw [hl.1, hL]) hstk (by show 2 * 0 + _ ≤ 8; rw [vr_sum]; omega) hd ⟨by omega, by omega⟩
  refine wx_call hrun hS (fun H1 locs1 g1 g2 => ?_)
  have kk := kx (by omega) (by omega) hL p e s m args below meth c H1 locs1 ls F g1 g2 hl
  rw [show hM hf - B.1.1 = hM h - B.1.1 + (hM hf - hM h) by omega, show hZ hf - B.1.2 = hZ h - B.1.2 + (hZ hf - hZ h) by omega, List.map_append] at kk
  rw [show (rf.map (vr E)).toList = rf.toList.map (vr E) by cases rf <;> rfl]
  exact kk
/-! returns -/
theorem ax_iret {d : Nat} {x : Int32} (hr : mi.2.2.2 = some .int) (hd : decode mi.2.1 pc = .ok (.ireturn, 1)) (hB : B.2 = (hM h, hZ h)) : AW l E mi (rmOf d B) B (MF E B (some (.int x)) h) pc L [.int x] h := by
  have e1 : (rmOf d B).cells = B.2.1 - B.1.1 := rfl
  have e2 : (rmOf d B).slots = B.2.2 - B.1.2 := rfl
  refine ⟨⟨by rw [hB]; exact Nat.le_refl _, by rw [hB]; exact Nat.le_refl _, by omega, by omega⟩, fun b1 b2 hL p e s m args below meth c H locs ls F hRH hS hl => ?_⟩
  exact W.iret F.1 F.2.1 (by rw [F.2.2.2.1]; exact hr) (fun t ht _ => ⟨rfl, by rw [ht]; exact hRH, hS.F ht⟩) (fun q hq => hS.2.2 q hq) hd F.2.2.2.2.1
theorem ax_zret {d : Nat} {x : Int32} (hr : mi.2.2.2 = some .boolean) (hx : x = 0 ∨ x = 1) (hd : decode mi.2.1 pc = .ok (.ireturn, 1)) (hB : B.2 = (hM h, hZ h)) : AW l E mi (rmOf d B) B (MF E B (some (.int x)) h) pc L [.int x] h := by
  have e1 : (rmOf d B).cells = B.2.1 - B.1.1 := rfl
  have e2 : (rmOf d B).slots = B.2.2 - B.1.2 := rfl
  refine ⟨⟨by rw [hB]; exact Nat.le_refl _, by rw [hB]; exact Nat.le_refl _, by omega, by omega⟩, fun b1 b2 hL p e s m args below meth c H locs ls F hRH hS hl => ?_⟩
  exact W.zret F.1 F.2.1 (by rw [F.2.2.2.1]; exact hr) (by rcases hx with rfl | rfl <;> rfl) (fun t ht _ => ⟨rfl, by rw [ht]; exact hRH, hS.F ht⟩) (fun q hq => hS.2.2 q hq) hd F.2.2.2.2.1
theorem ax_lret {d : Nat} {x : Int64} (hr : mi.2.2.2 = some .long) (hd : decode mi.2.1 pc = .ok (.lreturn, 1)) (hB : B.2 = (hM h, hZ h)) : AW l E mi (rmOf d B) B (MF E B (some (.long x)) h) pc L [.long x] h := by
  have e1 : (rmOf d B).cells = B.2.1 - B.1.1 := rfl
  have e2 : (rmOf d B).slots = B.2.2 - B.1.2 := rfl
  refine ⟨⟨by rw [hB]; exact Nat.le_refl _, by rw [hB]; exact Nat.le_refl _, by omega, by omega⟩, fun b1 b2 hL p e s m args below meth c H locs ls F hRH hS hl => ?_⟩
  exact W.lret F.1 F.2.1 (by rw [F.2.2.2.1]; exact hr) (fun t ht _ => ⟨rfl, by rw [ht]; exact hRH, hS.F ht⟩) (fun q hq => hS.2.2 q hq) hd F.2.2.2.2.1
theorem ax_vret {d : Nat} (hr : mi.2.2.2 = none) (hd : decode mi.2.1 pc = .ok (.return_, 1)) (hB : B.2 = (hM h, hZ h)) : AW l E mi (rmOf d B) B (MF E B none h) pc L [] h := by
  have e1 : (rmOf d B).cells = B.2.1 - B.1.1 := rfl
  have e2 : (rmOf d B).slots = B.2.2 - B.1.2 := rfl
  refine ⟨⟨by rw [hB]; exact Nat.le_refl _, by rw [hB]; exact Nat.le_refl _, by omega, by omega⟩, fun b1 b2 hL p e s m args below meth c H locs ls F hRH hS hl => ?_⟩
  exact W.vret F.1 F.2.1 (by rw [F.2.2.2.1]; exact hr) (fun t ht _ => ⟨rfl, by rw [ht]; exact hRH, hS.F ht⟩) (fun q hq => hS.2.2 q hq) hd F.2.2.2.2.1
theorem ax_aret {d : Nat} {r : Option Nat} {C : String} (hr : mi.2.2.2 = some (.object C)) (hd : decode mi.2.1 pc = .ok (.areturn, 1)) (hB : B.2 = (hM h, hZ h)) : AW l E mi (rmOf d B) B (MF E B (some (va_rf r)) h) pc L [va_rf r] h := by
  have e1 : (rmOf d B).cells = B.2.1 - B.1.1 := rfl
  have e2 : (rmOf d B).slots = B.2.2 - B.1.2 := rfl
  refine ⟨⟨by rw [hB]; exact Nat.le_refl _, by rw [hB]; exact Nat.le_refl _, by omega, by omega⟩, fun b1 b2 hL p e s m args below meth c H locs ls F hRH hS hl => ?_⟩
  exact W.aret (v := vr E (va_rf r)) F.1 F.2.1 (by rw [F.2.2.2.1]; exact hr) (Or.inl ⟨C, rfl⟩) (by cases r with | none => exact Or.inl rfl | some a => exact Or.inr ⟨_, rfl⟩) (fun t ht _ => ⟨rfl, by rw [ht]; exact hRH, hS.F ht⟩) (fun q hq => hS.2.2 q hq) hd F.2.2.2.2.1
/-! a method's start -/
def lsA : Nat → List Value → List (Option Value)
  | n, [] => List.replicate n none
  | n, .long x :: vs => some (.long x) :: none :: lsA (n - 2) vs
  | n, v :: vs => some v :: lsA (n - 1) vs
def argL : List Value → Nat
  | [] => 0
  | v :: vs => v.category + argL vs
theorem lg_len (E : EN) (av : List Value) : (lg_sl (av.map (vr E))).length = argL av := by
  induction av with
  | nil => rfl
  | cons v vs ih =>
    have e : lg_sl ((v :: vs).map (vr E)) = (if (vr E v).category = 2 then [.val (vr E v), .second] else [.val (vr E v)]) ++ lg_sl (vs.map (vr E)) := by simp [lg_sl]
    rw [e, List.length_append, ih, vr_cat]
    show _ = v.category + argL vs
    rcases lv_cat v with q | q <;> rw [q] <;> simp
/-- the locals at the start: the arguments in their places, nothing else known -/
theorem entry_L {av : List Value} {nL : Nat} (L0 : List (Option Value)) (hlen : L0.length = nL) (hn : argL av ≤ nL) (hL0 : ∀ (i : Nat) (v : Value), L0[i]? = some (some v) → (i, v) ∈ lv_args 0 av) : LH E ((lg_sl (av.map (vr E)) ++ List.replicate (nL - (lg_sl (av.map (vr E))).length) Slot.unset).toArray) L0 := by
  have h1 := lv_entry (av.map (vr E)) (n := nL) (by rw [lg_len]; exact hn)
  have key : ∀ (vs : List Value) (k i : Nat) (v : Value), (i, v) ∈ lv_args k vs → (i, vr E v) ∈ lv_args k (vs.map (vr E)) := by
    intro vs
    induction vs with
    | nil => intro k i v h; cases h
    | cons w ws ih =>
      intro k i v h
      simp only [lv_args, List.map_cons, vr_cat] at h ⊢
      rcases List.mem_cons.mp h with q | q
      · cases q; exact List.mem_cons_self
      · exact List.mem_cons_of_mem _ (ih _ i v q)
  exact ⟨by rw [hlen]; exact h1.1, h1.2.1, fun i v hv => h1.2.2 (i, vr E v) (key av 0 i v (hL0 i v hv))⟩
theorem am_of {d : Nat} {av : List Value} {rf : Option Value} {hf : AH} (L0 : List (Option Value)) (hy : plainName mi.1.cls = true) (hlen : L0.length = mi.2.2.1) (hn : argL av ≤ mi.2.2.1) (hL0 : ∀ (i : Nat) (v : Value), L0[i]? = some (some v) → (i, v) ∈ lv_args 0 av)
    (kx : AW l E mi (rmOf d (bOf h hf)) (bOf h hf) (MF E (bOf h hf) rf hf) 0 L0 [] h) : AM l E d mi av h rf hf := by
  obtain ⟨⟨c1, c2, c3, c4⟩, kx⟩ := kx
  refine ⟨⟨c1, c2⟩, Met.ofW (cc := mi.2.1) (maxL := mi.2.2.1) (ret := mi.2.2.2) hy rfl ?_⟩
  intro p e s m args below meth c s₁ Bd hml hv
  obtain ⟨rfl, hRK, hRH⟩ := hv
  have hts : ∀ w ∈ zgw, w.before ((av.map (vr E)).toArray) s = true := fun w hw => atoms_spec (ws := Cond.code mi.1 mi.2.1 mi.2.2.1 mi.2.2.2 :: zgw) Bd.pre w (List.mem_cons_of_mem _ hw)
  have hown : s.vm.findClass mi.1.cls = some m.cls := findClass_of_methodNamed Bd.named
  have hnm : meth.name = mi.1.name := (name_of_methodNamed Bd.named Bd.method).1
  have F : FX E mi p s m ((av.map (vr E)).toArray) meth c := ⟨Bd.exec, Bd.bytes, hml, Bd.returns, Bd.notSynchronized, hown, fun q => hnm.trans q, hts, hRK, by rw [hRH.2.1]; omega⟩
  rw [lg_entry_eq]
  have kk := kx (Nat.le_refl _) (Nat.le_refl _) hlen p e s m _ below meth c s.heap [] _ F hRH va_S.rf (entry_L L0 hlen hn hL0)
  rw [show hM h - (bOf h hf).1.1 = 0 from Nat.sub_self _, show hZ h - (bOf h hf).1.2 = 0 from Nat.sub_self _] at kk
  exact kk
end HC
end
section
/-! System.arraycopy of ints and of longs -/
section CPX
variable {l : Launch} {E : EN} {mi : MI} {R : Room} {B : (Nat × Nat) × (Nat × Nat)} {Qf : QF} {pc : Nat} {L : List (Option Value)} {st : List Value} {h h' : AH}
theorem nfw : nativeFrameWords "java/lang/System" "arraycopy" 5 ≤ 40 := by decide
theorem nn_clamp (z : Int32) (hz : ¬ z < 0) : z.toInt = (z.toNatClampNeg : Int) := by
  have hz0 : (0 : Int) ≤ z.toInt := by
    have := Int32.not_lt.mp hz
    simpa using Int32.le_iff_toInt_le.mp this
  show z.toInt = ((z.toInt.toNat : Nat) : Int)
  omega
theorem ax_cpI {idx a b : Nat} {i j n : Int32} (hw : Cond.methodLink mi.1.cls idx arraycopyName ∈ zgw) (hna : Cond.native arraycopyName ∈ zgw) (hst : Cond.static arraycopyName ∈ zgw) (hini : Cond.initialized "java/lang/System" ∈ zgw) (hR1 : 1 ≤ R.frames) (hR2 : 64 ≤ R.locals) (hs : (st.map fun v => v.category).sum ≤ 8) (hd : decode mi.2.1 pc = .ok (.invokestatic idx, 3)) (hg : cpI h a i b j n = some h') (kx : AW l E mi R B Qf (pc + 3) L st h') : AW l E mi R B Qf pc L (.int n :: .int j :: va_rf (some b) :: .int i :: va_rf (some a) :: st) h := by
  unfold cpI at hg
  split at hg
  · rename_i q
    obtain ⟨ka, kb, a4, b4, h1, h2, h3, h4, h5⟩ := q
    cases hg
    refine ⟨kx.1, fun b1 b2 hL p e s m args below meth c H locs ls F hRH hS hl => ?_⟩
    have hts := F.2.2.2.2.2.2.2.1
    have hKK := F.2.2.2.2.2.2.2.2.1.1
    have hc0 : H[ad E a]? = some (vp_cell (eA E 1) ((hK h a).2, .inl (hI h a))) := hRH.row a4 (d := 1) (by omega) (by omega) ka
    have hc1 : H[ad E b]? = some (vp_cell (eA E 1) ((hK h b).2, .inl (hI h b))) := hRH.row b4 (d := 1) (by omega) (by omega) kb
    obtain ⟨t0, ht⟩ := tys_at E (d := 1) (by decide)
    obtain ⟨-, k0, hk0, cm0, hkk0⟩ := (hKK.2 t0 _ ht).1 (hK h a).2 (fun j => .int (hI h a j))
    obtain ⟨-, k1, hk1, cm1, hkk1⟩ := (hKK.2 t0 _ ht).1 (hK h b).2 (fun j => .int (hI h b j))
    show W p l e R s m args below meth c H locs _ _ _ (F0 m pc ls (.int n :: .int j :: .ref (ad E b) :: .int i :: .ref (ad E a) :: st.map (vr E)))
    intro T hT X
    obtain ⟨vm', X', step⟩ := X.arraycopy F.1 F.2.2.2.2.2.1 (hts _ hw) (hts _ hna) (hts _ hst) (hts _ hini) (src := ad E a) (dst := ad E b) (cs := vp_cell (eA E 1) ((hK h a).2, .inl (hI h a))) (cd := vp_cell (eA E 1) ((hK h b).2, .inl (hI h b))) (srcPos := i) (destPos := j) (n := n) (by rw [hT]; exact hc0) (by rw [hT]; exact hc1)
      (fun _ h => by cases h) (fun _ h => by cases h) (fun h => by cases h) (fun h => by cases h) hk0 hk1 hkk0 hkk1 (by rfl) h1 h2 h3
      (by rw [nn_clamp i h1, nn_clamp n h3]; show ¬ _ > ((arrV (eA E 1) (hK h a).2 (fun j => .int (hI h a j))).slots.size : Int); rw [arrV_size]; omega)
      (by rw [nn_clamp j h2, nn_clamp n h3]; show ¬ _ > ((arrV (eA E 1) (hK h b).2 (fun j => .int (hI h b j))).slots.size : Int); rw [arrV_size]; omega)
      (fun vm₁ _ k hk => by
        have ev : (vp_cell (eA E 1) ((hK h a).2, .inl (hI h a))).slots.getD (i.toNatClampNeg + k) .null = .int (hI h a (i.toNatClampNeg + k)) := by
          show (arrV (eA E 1) (hK h a).2 (fun j => .int (hI h a j))).slots.getD _ _ = _
          rw [Array.getD_eq_getD_getElem?, arrV_read _ _ (by omega)]
          rfl
        refine ⟨?_, ?_⟩
        · rw [ev]; rfl
        · rw [ev]; exact trivial)
      (g := F0 m pc ls (.int n :: .int j :: .ref (ad E b) :: .int i :: .ref (ad E a) :: st.map (vr E))) rfl (by show ls.size = _; rw [hl.1, hL, F.2.2.1]) (rest := st.map (vr E)) rfl (by rw [F.2.1]; exact hd) hR1 (by show 2 * 0 + _ + (nativeFrameWords "java/lang/System" "arraycopy" 5 + 11) ≤ _; rw [vr_sum]; have := nfw; omega)
    have e1 : copied (vp_cell (eA E 1) ((hK h a).2, .inl (hI h a))) (vp_cell (eA E 1) ((hK h b).2, .inl (hI h b))) i j n = vp_cell (eA E 1) ((hK h b).2, .inl (va_cpy (hI h a) (hI h b) i.toNatClampNeg j.toNatClampNeg n.toNatClampNeg)) := va_copied (fun z => .int z) (eA E 1) (eA E 1) (hI h a) (hI h b) h4
    rw [e1] at X' step
    have hlt : ad E b < H.size := (Array.getElem?_eq_some_iff.mp hc1).1
    generalize ecl : vp_cell (eA E 1) ((hK h b).2, .inl (va_cpy (hI h a) (hI h b) i.toNatClampNeg j.toNatClampNeg n.toNatClampNeg)) = cl at X' step
    have hheap : ((T.setVm vm').setCell (ad E b) cl).heap = H.setIfInBounds (ad E b) cl := by rw [← hT]; rfl
    have oq : ∀ q : Nat, q ≠ ad E b → (H.setIfInBounds (ad E b) cl)[q]? = H[q]? := fun q hq => by simp [Array.getElem?_setIfInBounds, Ne.symm hq]
    have hat : va_at (eD E) zcl (ad E b, cel E (uIr h b (va_cpy (hI h a) (hI h b) i.toNatClampNeg j.toNatClampNeg n.toNatClampNeg)) b) (H.setIfInBounds (ad E b) cl) := by
      rw [cel_arr (h := uIr h b (va_cpy (hI h a) (hI h b) i.toNatClampNeg j.toNatClampNeg n.toNatClampNeg)) (d := 1) kb (by omega)]
      show (H.setIfInBounds (ad E b) cl)[ad E b]? = some (vp_cell (eA E 1) ((hK h b).2, .inl (hI (uIr h b (va_cpy (hI h a) (hI h b) i.toNatClampNeg j.toNatClampNeg n.toNatClampNeg)) b)))
      have er : hI (uIr h b (va_cpy (hI h a) (hI h b) i.toNatClampNeg j.toNatClampNeg n.toNatClampNeg)) b = va_cpy (hI h a) (hI h b) i.toNatClampNeg j.toNatClampNeg n.toNatClampNeg := by
        funext y; show (if b = b then _ else _) = _; rw [if_pos rfl]
      rw [er, ecl]
      simp [Array.getElem?_setIfInBounds, hlt]
    have hR1 : RH E (uIr h b (va_cpy (hI h a) (hI h b) i.toNatClampNeg j.toNatClampNeg n.toNatClampNeg)) (H.setIfInBounds (ad E b) cl) :=
      hRH.upd b4 rfl (fun _ => rfl) (fun y hy => ⟨by funext z; show (if y = b then _ else _) = _; rw [if_neg hy]; rfl, rfl, rfl⟩) (by simp) oq hat
    obtain ⟨t, a1, bb1⟩ := kx.2 b1 b2 hL p e s m args below meth c _ _ ls F hR1 ⟨by simp; exact hS.1, fun q g1 g2 => by
        rw [oq q (fun e => g2 (by rw [e]; exact ad_fr b4))]
        exact hS.2.1 q g1 g2, fun q hq => by
        rcases List.mem_append.mp hq with hh | hh
        · exact hS.2.2 q hh
        · obtain ⟨z, -, hz⟩ := List.mem_map.mp hh
          rw [← hz]
          exact ad_fr b4⟩ hl _ hheap X'
    exact ⟨t, step t a1, bb1⟩
  · cases hg
theorem ax_cpJ {idx a b : Nat} {i j n : Int32} (hw : Cond.methodLink mi.1.cls idx arraycopyName ∈ zgw) (hna : Cond.native arraycopyName ∈ zgw) (hst : Cond.static arraycopyName ∈ zgw) (hini : Cond.initialized "java/lang/System" ∈ zgw) (hR1 : 1 ≤ R.frames) (hR2 : 64 ≤ R.locals) (hs : (st.map fun v => v.category).sum ≤ 8) (hd : decode mi.2.1 pc = .ok (.invokestatic idx, 3)) (hg : cpJ h a i b j n = some h') (kx : AW l E mi R B Qf (pc + 3) L st h') : AW l E mi R B Qf pc L (.int n :: .int j :: va_rf (some b) :: .int i :: va_rf (some a) :: st) h := by
  unfold cpJ at hg
  split at hg
  · rename_i q
    obtain ⟨ka, kb, a4, b4, h1, h2, h3, h4, h5⟩ := q
    cases hg
    refine ⟨kx.1, fun b1 b2 hL p e s m args below meth c H locs ls F hRH hS hl => ?_⟩
    have hts := F.2.2.2.2.2.2.2.1
    have hKK := F.2.2.2.2.2.2.2.2.1.1
    have hc0 : H[ad E a]? = some (vp_cell (eA E 4) ((hK h a).2, .inr (.inl (hJ h a)))) := hRH.row a4 (d := 4) (by omega) (by omega) ka
    have hc1 : H[ad E b]? = some (vp_cell (eA E 4) ((hK h b).2, .inr (.inl (hJ h b)))) := hRH.row b4 (d := 4) (by omega) (by omega) kb
    obtain ⟨t0, ht⟩ := tys_at E (d := 4) (by decide)
    obtain ⟨-, k0, hk0, cm0, hkk0⟩ := (hKK.2 t0 _ ht).1 (hK h a).2 (fun j => .long (hJ h a j))
    obtain ⟨-, k1, hk1, cm1, hkk1⟩ := (hKK.2 t0 _ ht).1 (hK h b).2 (fun j => .long (hJ h b j))
    show W p l e R s m args below meth c H locs _ _ _ (F0 m pc ls (.int n :: .int j :: .ref (ad E b) :: .int i :: .ref (ad E a) :: st.map (vr E)))
    intro T hT X
    obtain ⟨vm', X', step⟩ := X.arraycopy F.1 F.2.2.2.2.2.1 (hts _ hw) (hts _ hna) (hts _ hst) (hts _ hini) (src := ad E a) (dst := ad E b) (cs := vp_cell (eA E 4) ((hK h a).2, .inr (.inl (hJ h a)))) (cd := vp_cell (eA E 4) ((hK h b).2, .inr (.inl (hJ h b)))) (srcPos := i) (destPos := j) (n := n) (by rw [hT]; exact hc0) (by rw [hT]; exact hc1)
      (fun _ h => by cases h) (fun _ h => by cases h) (fun h => by cases h) (fun h => by cases h) hk0 hk1 hkk0 hkk1 (by rfl) h1 h2 h3
      (by rw [nn_clamp i h1, nn_clamp n h3]; show ¬ _ > ((arrV (eA E 4) (hK h a).2 (fun j => .long (hJ h a j))).slots.size : Int); rw [arrV_size]; omega)
      (by rw [nn_clamp j h2, nn_clamp n h3]; show ¬ _ > ((arrV (eA E 4) (hK h b).2 (fun j => .long (hJ h b j))).slots.size : Int); rw [arrV_size]; omega)
      (fun vm₁ _ k hk => by
        have ev : (vp_cell (eA E 4) ((hK h a).2, .inr (.inl (hJ h a)))).slots.getD (i.toNatClampNeg + k) .null = .long (hJ h a (i.toNatClampNeg + k)) := by
          show (arrV (eA E 4) (hK h a).2 (fun j => .long (hJ h a j))).slots.getD _ _ = _
          rw [Array.getD_eq_getD_getElem?, arrV_read _ _ (by omega)]
          rfl
        refine ⟨?_, ?_⟩
        · rw [ev]; rfl
        · rw [ev]; exact trivial)
      (g := F0 m pc ls (.int n :: .int j :: .ref (ad E b) :: .int i :: .ref (ad E a) :: st.map (vr E))) rfl (by show ls.size = _; rw [hl.1, hL, F.2.2.1]) (rest := st.map (vr E)) rfl (by rw [F.2.1]; exact hd) hR1 (by show 2 * 0 + _ + (nativeFrameWords "java/lang/System" "arraycopy" 5 + 11) ≤ _; rw [vr_sum]; have := nfw; omega)
    have e1 : copied (vp_cell (eA E 4) ((hK h a).2, .inr (.inl (hJ h a)))) (vp_cell (eA E 4) ((hK h b).2, .inr (.inl (hJ h b)))) i j n = vp_cell (eA E 4) ((hK h b).2, .inr (.inl (va_cpy (hJ h a) (hJ h b) i.toNatClampNeg j.toNatClampNeg n.toNatClampNeg))) := va_copied (fun z => .long z) (eA E 4) (eA E 4) (hJ h a) (hJ h b) h4
    rw [e1] at X' step
    have hlt : ad E b < H.size := (Array.getElem?_eq_some_iff.mp hc1).1
    generalize ecl : vp_cell (eA E 4) ((hK h b).2, .inr (.inl (va_cpy (hJ h a) (hJ h b) i.toNatClampNeg j.toNatClampNeg n.toNatClampNeg))) = cl at X' step
    have hheap : ((T.setVm vm').setCell (ad E b) cl).heap = H.setIfInBounds (ad E b) cl := by rw [← hT]; rfl
    have oq : ∀ q : Nat, q ≠ ad E b → (H.setIfInBounds (ad E b) cl)[q]? = H[q]? := fun q hq => by simp [Array.getElem?_setIfInBounds, Ne.symm hq]
    have hat : va_at (eD E) zcl (ad E b, cel E (uJr h b (va_cpy (hJ h a) (hJ h b) i.toNatClampNeg j.toNatClampNeg n.toNatClampNeg)) b) (H.setIfInBounds (ad E b) cl) := by
      rw [cel_arr (h := uJr h b (va_cpy (hJ h a) (hJ h b) i.toNatClampNeg j.toNatClampNeg n.toNatClampNeg)) (d := 4) kb (by omega)]
      show (H.setIfInBounds (ad E b) cl)[ad E b]? = some (vp_cell (eA E 4) ((hK h b).2, .inr (.inl (hJ (uJr h b (va_cpy (hJ h a) (hJ h b) i.toNatClampNeg j.toNatClampNeg n.toNatClampNeg)) b))))
      have er : hJ (uJr h b (va_cpy (hJ h a) (hJ h b) i.toNatClampNeg j.toNatClampNeg n.toNatClampNeg)) b = va_cpy (hJ h a) (hJ h b) i.toNatClampNeg j.toNatClampNeg n.toNatClampNeg := by
        funext y; show (if b = b then _ else _) = _; rw [if_pos rfl]
      rw [er, ecl]
      simp [Array.getElem?_setIfInBounds, hlt]
    have hR1 : RH E (uJr h b (va_cpy (hJ h a) (hJ h b) i.toNatClampNeg j.toNatClampNeg n.toNatClampNeg)) (H.setIfInBounds (ad E b) cl) :=
      hRH.upd b4 rfl (fun _ => rfl) (fun y hy => ⟨rfl, by funext z; show (if y = b then _ else _) = _; rw [if_neg hy]; rfl, rfl⟩) (by simp) oq hat
    obtain ⟨t, a1, bb1⟩ := kx.2 b1 b2 hL p e s m args below meth c _ _ ls F hR1 ⟨by simp; exact hS.1, fun q g1 g2 => by
        rw [oq q (fun e => g2 (by rw [e]; exact ad_fr b4))]
        exact hS.2.1 q g1 g2, fun q hq => by
        rcases List.mem_append.mp hq with hh | hh
        · exact hS.2.2 q hh
        · obtain ⟨z, -, hz⟩ := List.mem_map.mp hh
          rw [← hz]
          exact ad_fr b4⟩ hl _ hheap X'
    exact ⟨t, step t a1, bb1⟩
  · cases hg
end CPX
end
section
/-! what the printed functions and certificates are put together with -/
def bd2 {α β γ : Type} (o : Option (α × β)) (f : α → β → Option γ) : Option γ := o.bind (fun q => f q.1 q.2)
def bd3 {α β γ δ : Type} (o : Option (α × β × γ)) (f : α → β → γ → Option δ) : Option δ := o.bind (fun q => f q.1 q.2.1 q.2.2)
def bd4 {α β γ δ ε : Type} (o : Option (α × β × γ × δ)) (f : α → β → γ → δ → Option ε) : Option ε := o.bind (fun q => f q.1 q.2.1 q.2.2.1 q.2.2.2)
def bd5 {α β γ δ ε ζ : Type} (o : Option (α × β × γ × δ × ε)) (f : α → β → γ → δ → ε → Option ζ) : Option ζ := o.bind (fun q => f q.1 q.2.1 q.2.2.1 q.2.2.2.1 q.2.2.2.2)
def bd6 {α β γ δ ε ζ η : Type} (o : Option (α × β × γ × δ × ε × ζ)) (f : α → β → γ → δ → ε → ζ → Option η) : Option η := o.bind (fun q => f q.1 q.2.1 q.2.2.1 q.2.2.2.1 q.2.2.2.2.1 q.2.2.2.2.2)
theorem bd1_s {α β : Type} {o : Option α} {f : α → Option β} {r : β} (h : o.bind f = some r) : ∃ a, o = some a ∧ f a = some r := by
  cases o with
  | none => cases h
  | some a => exact ⟨a, rfl, h⟩
theorem bd2_s {α β γ : Type} {o : Option (α × β)} {f : α → β → Option γ} {r : γ} (h : bd2 o f = some r) : ∃ a b, o = some (a, b) ∧ f a b = some r := by
  cases o with
  | none => cases h
  | some q => exact ⟨q.1, q.2, rfl, h⟩
theorem bd3_s {α β γ δ : Type} {o : Option (α × β × γ)} {f : α → β → γ → Option δ} {r : δ} (h : bd3 o f = some r) : ∃ a b c, o = some (a, b, c) ∧ f a b c = some r := by
  cases o with
  | none => cases h
  | some q => exact ⟨q.1, q.2.1, q.2.2, rfl, h⟩
theorem bd4_s {α β γ δ ε : Type} {o : Option (α × β × γ × δ)} {f : α → β → γ → δ → Option ε} {r : ε} (h : bd4 o f = some r) : ∃ a b c d, o = some (a, b, c, d) ∧ f a b c d = some r := by
  cases o with
  | none => cases h
  | some q => exact ⟨q.1, q.2.1, q.2.2.1, q.2.2.2, rfl, h⟩
theorem bd5_s {α β γ δ ε ζ : Type} {o : Option (α × β × γ × δ × ε)} {f : α → β → γ → δ → ε → Option ζ} {r : ζ} (h : bd5 o f = some r) : ∃ a b c d e, o = some (a, b, c, d, e) ∧ f a b c d e = some r := by
  cases o with
  | none => cases h
  | some q => exact ⟨q.1, q.2.1, q.2.2.1, q.2.2.2.1, q.2.2.2.2, rfl, h⟩
theorem bd6_s {α β γ δ ε ζ η : Type} {o : Option (α × β × γ × δ × ε × ζ)} {f : α → β → γ → δ → ε → ζ → Option η} {r : η} (h : bd6 o f = some r) : ∃ a b c d e g, o = some (a, b, c, d, e, g) ∧ f a b c d e g = some r := by
  cases o with
  | none => cases h
  | some q => exact ⟨q.1, q.2.1, q.2.2.1, q.2.2.2.1, q.2.2.2.2.1, q.2.2.2.2.2, rfl, h⟩
theorem ite_c {c : Prop} [Decidable c] {α : Type} {a b : Option α} {r : α} (h : (if c then a else b) = some r) : (c ∧ a = some r) ∨ (¬ c ∧ b = some r) := by
  by_cases q : c
  · rw [if_pos q] at h; exact Or.inl ⟨q, h⟩
  · rw [if_neg q] at h; exact Or.inr ⟨q, h⟩
theorem ite_s {c : Prop} [Decidable c] {α : Type} {a : Option α} {r : α} (h : (if c then a else none) = some r) : c ∧ a = some r := by
  rcases ite_c h with q | q
  · exact q
  · cases q.2
def onl {α : Type} (r : Option Nat) (a : Option α) (b : Nat → Option α) : Option α := match r with
  | none => a
  | some x => b x
theorem onl_s {α : Type} {r : Option Nat} {a : Option α} {b : Nat → Option α} {x : α} (h : onl r a b = some x) : (r = none ∧ a = some x) ∨ ∃ y, r = some y ∧ b y = some x := by
  cases r with
  | none => exact Or.inl ⟨rfl, h⟩
  | some y => exact Or.inr ⟨y, rfl, h⟩
/-- a call of a method of c on the cell b -/
def cv {α : Type} (c : Nat) (h : AH) (b : Nat) (o : Option α) : Option α := if hK h b = (100 + c, 0) then o else none
theorem cv_s {α : Type} {c : Nat} {h : AH} {b : Nat} {o : Option α} {x : α} (hf : cv c h b o = some x) : hK h b = (100 + c, 0) ∧ o = some x := ite_s hf
abbrev rokb (r : Option Nat) : Prop := ∀ a ∈ r, 4 ≤ a
def FU : Nat := 1000000000000
theorem cat_rf (r : Option Nat) : (va_rf r).category = 1 := by cases r <;> rfl
theorem c1n {x : Option (Option Value)} (h : x = some none) : ∀ w, x = some (some w) → w.category = 1 := fun w q => by rw [h] at q; cases q
theorem c1i {x : Option (Option Value)} {v : Int32} (h : x = some (some (.int v))) : ∀ w, x = some (some w) → w.category = 1 := fun w q => by rw [h] at q; cases q; rfl
theorem c1r {x : Option (Option Value)} {r : Option Nat} (h : x = some (some (va_rf r))) : ∀ w, x = some (some w) → w.category = 1 := fun w q => by
  rw [h] at q
  have e := Option.some.inj (Option.some.inj q)
  rw [← e]; exact cat_rf r
theorem iic {x : Int32} {n : Int} {c : Int32} (h : Int32.ofInt n = c) : x + Int32.ofInt n = x + c := by rw [h]
section GL
variable {l : Launch} {E : EN} {mi : MI} {R : Room} {B : (Nat × Nat) × (Nat × Nat)} {Qf : QF} {pc : Nat} {L : List (Option Value)} {st : List Value} {h h' : AH}
theorem ax_nmI {x y : Int32} (e : x = y) (k : AW l E mi R B Qf pc L (.int y :: st) h) : AW l E mi R B Qf pc L (.int x :: st) h := by rw [e]; exact k
theorem ax_nmJ {x y : Int64} (e : x = y) (k : AW l E mi R B Qf pc L (.long y :: st) h) : AW l E mi R B Qf pc L (.long x :: st) h := by rw [e]; exact k
/-- the arguments, each with a mark whether it takes two places -/
def mkL : List (Value × Bool) → List (Option Value)
  | [] => []
  | (v, false) :: r => some v :: mkL r
  | (v, true) :: r => some v :: none :: mkL r
def catOK : List (Value × Bool) → Prop
  | [] => True
  | (v, b) :: r => v.category = (if b then 2 else 1) ∧ catOK r
theorem mkL_len : ∀ (tg : List (Value × Bool)), catOK tg → argL (tg.map (·.1)) = (mkL tg).length
  | [], _ => rfl
  | (v, false) :: r, h => by
    have := mkL_len r h.2
    show v.category + argL (r.map (·.1)) = (mkL r).length + 1
    have h1 : v.category = 1 := h.1
    omega
  | (v, true) :: r, h => by
    have := mkL_len r h.2
    show v.category + argL (r.map (·.1)) = (mkL r).length + 1 + 1
    have h1 : v.category = 2 := h.1
    omega
theorem mkL_at (pad : Nat) : ∀ (tg : List (Value × Bool)), catOK tg → ∀ (k i : Nat) (v : Value), (mkL tg ++ List.replicate pad none)[i]? = some (some v) → (k + i, v) ∈ lv_args k (tg.map (·.1))
  | [], _, k, i, v, h => by
    have h2 : (List.replicate pad (none : Option Value))[i]? = some (some v) := h
    have h3 := List.eq_of_mem_replicate (List.mem_of_getElem? h2)
    cases h3
  | (w, false) :: r, hc, k, i, v, h => by
    have h1 : w.category = 1 := hc.1
    show (k + i, v) ∈ (k, w) :: lv_args (if w.category = 2 then k + 2 else k + 1) (r.map (·.1))
    rw [if_neg (by omega)]
    cases i with
    | zero => cases h; exact List.mem_cons_self
    | succ i =>
      have := mkL_at pad r hc.2 (k + 1) i v h
      rw [show k + (i + 1) = k + 1 + i by omega]
      exact List.mem_cons_of_mem _ this
  | (w, true) :: r, hc, k, i, v, h => by
    have h1 : w.category = 2 := hc.1
    show (k + i, v) ∈ (k, w) :: lv_args (if w.category = 2 then k + 2 else k + 1) (r.map (·.1))
    rw [if_pos h1]
    match i, h with
    | 0, h => cases h; exact List.mem_cons_self
    | 1, h => cases h
    | i + 2, h =>
      have := mkL_at pad r hc.2 (k + 2) i v h
      rw [show k + (i + 2) = k + 2 + i by omega]
      exact List.mem_cons_of_mem _ this
theorem am_of2 {d : Nat} {rf : Option Value} {hf : AH} (tg : List (Value × Bool)) (pad : Nat) (hc : catOK tg) (hy : plainName mi.1.cls = true) (hlen : (mkL tg).length + pad = mi.2.2.1)
    (kx : AW l E mi (rmOf d (bOf h hf)) (bOf h hf) (MF E (bOf h hf) rf hf) 0 (mkL tg ++ List.replicate pad none) [] h) : AM l E d mi (tg.map (·.1)) h rf hf :=
  am_of (mkL tg ++ List.replicate pad none) hy (by rw [List.length_append, List.length_replicate]; exact hlen) (by rw [mkL_len tg hc]; omega) (fun i v hv => by have := mkL_at pad tg hc 0 i v hv; rwa [Nat.zero_add] at this) kx
end GL
theorem ts_out {x : Int32} (hi : Nat) (hh : hi < 2 ^ 31) (h : ∀ j : Nat, j ≤ hi → ¬ x = nI j) : x.toInt < 0 ∨ (hi : Int) < x.toInt := by
  rcases Int.lt_or_le x.toInt 0 with q | q
  · exact Or.inl q
  · refine Or.inr (Int.not_le.mp fun q2 => ?_)
    refine h x.toInt.toNat (by omega) ?_
    have e : (nI x.toInt.toNat).toInt = x.toInt := by rw [nI_toInt (by omega)]; omega
    exact (Int32.toInt_inj.mp e).symm
theorem ne_toInt {x c : Int32} (h : ¬ x = c) : ¬ x.toInt = c.toInt := fun q => h (Int32.toInt_inj.mp q)
theorem kl_0 : Int64.ofNat ((0 : Fin 2) : Nat) = (0 : Int64) := rfl
theorem kl_1 : Int64.ofNat ((1 : Fin 2) : Nat) = (1 : Int64) := rfl
end
section
/-! printed by wip/gen/gen_all.py: the methods, the words that name them, the constants -/
abbrev mi_Pa_link : MI := (⟨"HelperWeave$Page", "link", "(JJ)V"⟩, prog_8_method_12_code, 6, none)
abbrev mi_C_hasBit : MI := (⟨"HelperWeave", "hasBit", "(II)Z"⟩, prog_1_method_53_code, 2, (some .boolean))
abbrev mi_C_talkNumbered : MI := (⟨"HelperWeave", "talkNumbered", "(I)LHelperWeave$Talk;"⟩, prog_1_method_43_code, 2, (some (.object "HelperWeave$Talk")))
abbrev mi_Wa_reach : MI := (⟨"HelperWeave$Walk", "reach", "(III)V"⟩, prog_11_method_10_code, 6, none)
abbrev mi_Wo_movedWithin : MI := (⟨"HelperWeave$Worlds", "movedWithin", "(JIZ)J"⟩, prog_12_method_9_code, 8, (some .long))
abbrev mi_Wo_move : MI := (⟨"HelperWeave$Worlds", "move", "(IZ)V"⟩, prog_12_method_8_code, 5, none)
theorem w_548 : Cond.constant "HelperWeave$Walk" (103) (-1640531535) ∈ zgw := zgw_of 548 (by decide +kernel) (by decide +kernel)
theorem w_912 : Cond.fieldLinkNest "HelperWeave$Worlds" (27) "HelperWeave" "WITH_FACT" "[J" "HelperWeave" ∈ znw := znw_of 912 (by decide +kernel) rfl
theorem w_914 : Cond.constantLong "HelperWeave$Worlds" (34) (-1) ∈ zgw := zgw_of 914 (by decide +kernel) (by decide +kernel)
theorem fl_322 : FL "HelperWeave" 18 0 1 := ⟨("HelperWeave", zT0, 11), rfl, by decide, Or.inl (zgw_of 322 (by decide +kernel) (by decide +kernel))⟩
theorem fl_323 : FL "HelperWeave" 87 0 2 := ⟨("HelperWeave", zT0, 11), rfl, by decide, Or.inl (zgw_of 323 (by decide +kernel) (by decide +kernel))⟩
theorem fl_89 : FL "HelperWeave$Page" 24 7 6 := ⟨("HelperWeave$Page", zT7, 8), rfl, by decide, Or.inl (zgw_of 89 (by decide +kernel) (by decide +kernel))⟩
theorem fl_85 : FL "HelperWeave$Page" 39 7 4 := ⟨("HelperWeave$Page", zT7, 8), rfl, by decide, Or.inl (zgw_of 85 (by decide +kernel) (by decide +kernel))⟩
theorem fl_116 : FL "HelperWeave$Walk" 9 10 0 := ⟨("HelperWeave$Walk", zT10, 11), rfl, by decide, Or.inl (zgw_of 116 (by decide +kernel) (by decide +kernel))⟩
theorem fl_117 : FL "HelperWeave$Walk" 15 10 1 := ⟨("HelperWeave$Walk", zT10, 11), rfl, by decide, Or.inl (zgw_of 117 (by decide +kernel) (by decide +kernel))⟩
theorem fl_118 : FL "HelperWeave$Walk" 18 10 2 := ⟨("HelperWeave$Walk", zT10, 11), rfl, by decide, Or.inl (zgw_of 118 (by decide +kernel) (by decide +kernel))⟩
theorem fl_121 : FL "HelperWeave$Walk" 21 10 4 := ⟨("HelperWeave$Walk", zT10, 11), rfl, by decide, Or.inl (zgw_of 121 (by decide +kernel) (by decide +kernel))⟩
theorem fl_119 : FL "HelperWeave$Walk" 38 10 3 := ⟨("HelperWeave$Walk", zT10, 11), rfl, by decide, Or.inl (zgw_of 119 (by decide +kernel) (by decide +kernel))⟩
theorem fw_119 {nm : String} : FW "HelperWeave$Walk" nm 38 10 3 := ⟨("HelperWeave$Walk", zT10, 11), rfl, by decide, Or.inl ⟨rfl, Or.inl (zgw_of 119 (by decide +kernel) (by decide +kernel))⟩⟩
theorem fw_122 {nm : String} : FW "HelperWeave$Walk" nm 44 10 5 := ⟨("HelperWeave$Walk", zT10, 11), rfl, by decide, Or.inl ⟨rfl, Or.inl (zgw_of 122 (by decide +kernel) (by decide +kernel))⟩⟩
theorem fl_294 : FL "HelperWeave$Worlds" 9 11 0 := ⟨("HelperWeave$Worlds", zT11, 1), rfl, by decide, Or.inl (zgw_of 294 (by decide +kernel) (by decide +kernel))⟩
theorem ml_904 : ML "HelperWeave$Worlds" 30 ⟨"HelperWeave", "hasBit", "(II)Z"⟩ := Or.inr ⟨"HelperWeave", znw_of 904 (by decide +kernel) rfl⟩
theorem ml_919 : ML "HelperWeave$Worlds" 53 ⟨"HelperWeave$Worlds", "movedWithin", "(JIZ)J"⟩ := Or.inl (zgw_of 919 (by decide +kernel) (by decide +kernel))
theorem cm_Pa_link : CMv mi_Pa_link 2 := ⟨⟨zgw_of 2 (by decide +kernel) (by decide +kernel), zgw_of 404 (by decide +kernel) rfl, by decide, by decide, by decide +kernel⟩, zgw_of 403 (by decide +kernel) (by decide +kernel), zgw_ofs 3 (by decide +kernel) (by decide +kernel)⟩
theorem cm_C_hasBit : CMs mi_C_hasBit 2 := ⟨⟨zgw_of 1 (by decide +kernel) (by decide +kernel), zgw_of 447 (by decide +kernel) rfl, by decide, by decide, by decide +kernel⟩, zgw_of 446 (by decide +kernel) (by decide +kernel)⟩
theorem cm_C_talkNumbered : CMv mi_C_talkNumbered 1 := ⟨⟨zgw_of 1 (by decide +kernel) (by decide +kernel), zgw_of 502 (by decide +kernel) rfl, by decide, by decide, by decide +kernel⟩, zgw_of 501 (by decide +kernel) (by decide +kernel), zgw_ofs 8 (by decide +kernel) (by decide +kernel)⟩
theorem cm_Wa_reach : CMv mi_Wa_reach 3 := ⟨⟨zgw_of 4 (by decide +kernel) (by decide +kernel), zgw_of 547 (by decide +kernel) rfl, by decide, by decide, by decide +kernel⟩, zgw_of 546 (by decide +kernel) (by decide +kernel), zgw_ofs 9 (by decide +kernel) (by decide +kernel)⟩
theorem cm_Wo_movedWithin : CMs mi_Wo_movedWithin 3 := ⟨⟨zgw_of 10 (by decide +kernel) (by decide +kernel), zgw_of 921 (by decide +kernel) rfl, by decide, by decide, by decide +kernel⟩, zgw_of 920 (by decide +kernel) (by decide +kernel)⟩
theorem cm_Wo_move : CMv mi_Wo_move 2 := ⟨⟨zgw_of 10 (by decide +kernel) (by decide +kernel), zgw_of 918 (by decide +kernel) rfl, by decide, by decide, by decide +kernel⟩, zgw_of 917 (by decide +kernel) (by decide +kernel), zgw_ofs 31 (by decide +kernel) (by decide +kernel)⟩
theorem w_obi : Cond.instanceMethod Lib.objectInit ∈ zgw := zgw_of 25 (by decide +kernel) (by decide +kernel)
theorem w_obc : Cond.code Lib.objectInit ⟨#[0xb1]⟩ 1 none ∈ zgw := zgw_of 26 (by decide +kernel) rfl
theorem w_math : Cond.initialized "java/lang/Math" ∈ zgw := zgw_of 14 (by decide +kernel) (by decide +kernel)
theorem w_sys : Cond.initialized "java/lang/System" ∈ zgw := zgw_of 17 (by decide +kernel) (by decide +kernel)
theorem w_mmax_s : Cond.static Lib.Math.max.name ∈ zgw := zgw_of 457 (by decide +kernel) (by decide +kernel)
theorem w_mmax_c : Cond.code Lib.Math.max.name Lib.Math.max.code 2 (some .int) ∈ zgw := zgw_of 458 (by decide +kernel) rfl
theorem w_mmin_s : Cond.static Lib.Math.min.name ∈ zgw := zgw_of 454 (by decide +kernel) (by decide +kernel)
theorem w_mmin_c : Cond.code Lib.Math.min.name Lib.Math.min.code 2 (some .int) ∈ zgw := zgw_of 455 (by decide +kernel) rfl
theorem w_acn : Cond.native arraycopyName ∈ zgw := zgw_of 762 (by decide +kernel) (by decide +kernel)
theorem w_acs : Cond.static arraycopyName ∈ zgw := zgw_of 761 (by decide +kernel) (by decide +kernel)
theorem w_ac1 : Cond.arrayClass (kty 1) ∈ zgw := zgw_of 76 (by decide +kernel) (by decide +kernel)
theorem w_ac2 : Cond.arrayClass (kty 2) ∈ zgw := zgw_of 1189 (by decide +kernel) (by decide +kernel)
theorem w_ac3 : Cond.arrayClass (kty 3) ∈ zgw := zgw_of 1188 (by decide +kernel) (by decide +kernel)
theorem w_ac4 : Cond.arrayClass (kty 4) ∈ zgw := zgw_of 77 (by decide +kernel) (by decide +kernel)
theorem k16_4000 : (Int16.ofInt (4000)).toInt32 = (4000 : Int32) := by decide
theorem k16_8191 : (Int16.ofInt (8191)).toInt32 = (8191 : Int32) := by decide
theorem k16_8192 : (Int16.ofInt (8192)).toInt32 = (8192 : Int32) := by decide
theorem k32_0 : Int32.ofInt (0) = (0 : Int32) := by decide
theorem k32_1 : Int32.ofInt (1) = (1 : Int32) := by decide
theorem k8_6 : (Int8.ofInt (6)).toInt32 = (6 : Int32) := by decide
theorem k8_19 : (Int8.ofInt (19)).toInt32 = (19 : Int32) := by decide
theorem k8_64 : (Int8.ofInt (64)).toInt32 = (64 : Int32) := by decide
end
section
theorem dPa_link_0 : decode prog_8_method_12_code 0 = .ok (.iconst (1), 1) := by decide +kernel
theorem dPa_link_1 : decode prog_8_method_12_code 1 = .ok (.istore 5, 2) := by decide +kernel
theorem dPa_link_3 : decode prog_8_method_12_code 3 = .ok (.iload 5, 2) := by decide +kernel
theorem dPa_link_5 : decode prog_8_method_12_code 5 = .ok (.aload_n 0, 1) := by decide +kernel
theorem dPa_link_6 : decode prog_8_method_12_code 6 = .ok (.getfield 39, 3) := by decide +kernel
theorem dPa_link_9 : decode prog_8_method_12_code 9 = .ok (.if_icmp .gt (31), 3) := by decide +kernel
theorem dPa_link_12 : decode prog_8_method_12_code 12 = .ok (.lload_n 1, 1) := by decide +kernel
theorem dPa_link_13 : decode prog_8_method_12_code 13 = .ok (.iload 5, 2) := by decide +kernel
theorem dPa_link_15 : decode prog_8_method_12_code 15 = .ok (.lshr, 1) := by decide +kernel
theorem dPa_link_16 : decode prog_8_method_12_code 16 = .ok (.lconst 1, 1) := by decide +kernel
theorem dPa_link_17 : decode prog_8_method_12_code 17 = .ok (.land, 1) := by decide +kernel
theorem dPa_link_18 : decode prog_8_method_12_code 18 = .ok (.lconst 0, 1) := by decide +kernel
theorem dPa_link_19 : decode prog_8_method_12_code 19 = .ok (.lcmp, 1) := by decide +kernel
theorem dPa_link_20 : decode prog_8_method_12_code 20 = .ok (.ifCond .eq (14), 3) := by decide +kernel
theorem dPa_link_23 : decode prog_8_method_12_code 23 = .ok (.aload_n 0, 1) := by decide +kernel
theorem dPa_link_24 : decode prog_8_method_12_code 24 = .ok (.getfield 24, 3) := by decide +kernel
theorem dPa_link_27 : decode prog_8_method_12_code 27 = .ok (.iload 5, 2) := by decide +kernel
theorem dPa_link_29 : decode prog_8_method_12_code 29 = .ok (.dup2, 1) := by decide +kernel
theorem dPa_link_30 : decode prog_8_method_12_code 30 = .ok (.laload, 1) := by decide +kernel
theorem dPa_link_31 : decode prog_8_method_12_code 31 = .ok (.lload_n 3, 1) := by decide +kernel
theorem dPa_link_32 : decode prog_8_method_12_code 32 = .ok (.lor, 1) := by decide +kernel
theorem dPa_link_33 : decode prog_8_method_12_code 33 = .ok (.lastore, 1) := by decide +kernel
theorem dPa_link_34 : decode prog_8_method_12_code 34 = .ok (.iinc 5 (1), 3) := by decide +kernel
theorem dPa_link_37 : decode prog_8_method_12_code 37 = .ok (.goto (-34), 3) := by decide +kernel
theorem dPa_link_40 : decode prog_8_method_12_code 40 = .ok (.return_, 1) := by decide +kernel
theorem dC_hasBit_0 : decode prog_1_method_53_code 0 = .ok (.iload_n 0, 1) := by decide +kernel
theorem dC_hasBit_1 : decode prog_1_method_53_code 1 = .ok (.iload_n 1, 1) := by decide +kernel
theorem dC_hasBit_2 : decode prog_1_method_53_code 2 = .ok (.ishr, 1) := by decide +kernel
theorem dC_hasBit_3 : decode prog_1_method_53_code 3 = .ok (.iconst (1), 1) := by decide +kernel
theorem dC_hasBit_4 : decode prog_1_method_53_code 4 = .ok (.iand, 1) := by decide +kernel
theorem dC_hasBit_5 : decode prog_1_method_53_code 5 = .ok (.ifCond .eq (7), 3) := by decide +kernel
theorem dC_hasBit_8 : decode prog_1_method_53_code 8 = .ok (.iconst (1), 1) := by decide +kernel
theorem dC_hasBit_9 : decode prog_1_method_53_code 9 = .ok (.goto (4), 3) := by decide +kernel
theorem dC_hasBit_12 : decode prog_1_method_53_code 12 = .ok (.iconst (0), 1) := by decide +kernel
theorem dC_hasBit_13 : decode prog_1_method_53_code 13 = .ok (.ireturn, 1) := by decide +kernel
theorem dC_talkNumbered_0 : decode prog_1_method_43_code 0 = .ok (.iload_n 1, 1) := by decide +kernel
theorem dC_talkNumbered_1 : decode prog_1_method_43_code 1 = .ok (.ifCond .lt (11), 3) := by decide +kernel
theorem dC_talkNumbered_4 : decode prog_1_method_43_code 4 = .ok (.iload_n 1, 1) := by decide +kernel
theorem dC_talkNumbered_5 : decode prog_1_method_43_code 5 = .ok (.aload_n 0, 1) := by decide +kernel
theorem dC_talkNumbered_6 : decode prog_1_method_43_code 6 = .ok (.getfield 87, 3) := by decide +kernel
theorem dC_talkNumbered_9 : decode prog_1_method_43_code 9 = .ok (.if_icmp .lt (7), 3) := by decide +kernel
theorem dC_talkNumbered_12 : decode prog_1_method_43_code 12 = .ok (.aconst_null, 1) := by decide +kernel
theorem dC_talkNumbered_13 : decode prog_1_method_43_code 13 = .ok (.goto (9), 3) := by decide +kernel
theorem dC_talkNumbered_16 : decode prog_1_method_43_code 16 = .ok (.aload_n 0, 1) := by decide +kernel
theorem dC_talkNumbered_17 : decode prog_1_method_43_code 17 = .ok (.getfield 18, 3) := by decide +kernel
theorem dC_talkNumbered_20 : decode prog_1_method_43_code 20 = .ok (.iload_n 1, 1) := by decide +kernel
theorem dC_talkNumbered_21 : decode prog_1_method_43_code 21 = .ok (.aaload, 1) := by decide +kernel
theorem dC_talkNumbered_22 : decode prog_1_method_43_code 22 = .ok (.areturn, 1) := by decide +kernel
theorem dWa_reach_0 : decode prog_11_method_10_code 0 = .ok (.iload_n 1, 1) := by decide +kernel
theorem dWa_reach_1 : decode prog_11_method_10_code 1 = .ok (.ldc 103, 2) := by decide +kernel
theorem dWa_reach_3 : decode prog_11_method_10_code 3 = .ok (.imul, 1) := by decide +kernel
theorem dWa_reach_4 : decode prog_11_method_10_code 4 = .ok (.bipush (19), 2) := by decide +kernel
theorem dWa_reach_6 : decode prog_11_method_10_code 6 = .ok (.iushr, 1) := by decide +kernel
theorem dWa_reach_7 : decode prog_11_method_10_code 7 = .ok (.istore 4, 2) := by decide +kernel
theorem dWa_reach_9 : decode prog_11_method_10_code 9 = .ok (.iconst (0), 1) := by decide +kernel
theorem dWa_reach_10 : decode prog_11_method_10_code 10 = .ok (.istore 5, 2) := by decide +kernel
theorem dWa_reach_12 : decode prog_11_method_10_code 12 = .ok (.iload 5, 2) := by decide +kernel
theorem dWa_reach_14 : decode prog_11_method_10_code 14 = .ok (.sipush (8192), 3) := by decide +kernel
theorem dWa_reach_17 : decode prog_11_method_10_code 17 = .ok (.if_icmp .ge (48), 3) := by decide +kernel
theorem dWa_reach_20 : decode prog_11_method_10_code 20 = .ok (.aload_n 0, 1) := by decide +kernel
theorem dWa_reach_21 : decode prog_11_method_10_code 21 = .ok (.getfield 21, 3) := by decide +kernel
theorem dWa_reach_24 : decode prog_11_method_10_code 24 = .ok (.iload 4, 2) := by decide +kernel
theorem dWa_reach_26 : decode prog_11_method_10_code 26 = .ok (.iaload, 1) := by decide +kernel
theorem dWa_reach_27 : decode prog_11_method_10_code 27 = .ok (.ifCond .eq (38), 3) := by decide +kernel
theorem dWa_reach_30 : decode prog_11_method_10_code 30 = .ok (.aload_n 0, 1) := by decide +kernel
theorem dWa_reach_31 : decode prog_11_method_10_code 31 = .ok (.getfield 9, 3) := by decide +kernel
theorem dWa_reach_34 : decode prog_11_method_10_code 34 = .ok (.aload_n 0, 1) := by decide +kernel
theorem dWa_reach_35 : decode prog_11_method_10_code 35 = .ok (.getfield 21, 3) := by decide +kernel
theorem dWa_reach_38 : decode prog_11_method_10_code 38 = .ok (.iload 4, 2) := by decide +kernel
theorem dWa_reach_40 : decode prog_11_method_10_code 40 = .ok (.iaload, 1) := by decide +kernel
theorem dWa_reach_41 : decode prog_11_method_10_code 41 = .ok (.iconst (1), 1) := by decide +kernel
theorem dWa_reach_42 : decode prog_11_method_10_code 42 = .ok (.isub, 1) := by decide +kernel
theorem dWa_reach_43 : decode prog_11_method_10_code 43 = .ok (.iaload, 1) := by decide +kernel
theorem dWa_reach_44 : decode prog_11_method_10_code 44 = .ok (.iload_n 1, 1) := by decide +kernel
theorem dWa_reach_45 : decode prog_11_method_10_code 45 = .ok (.if_icmp .ne (4), 3) := by decide +kernel
theorem dWa_reach_48 : decode prog_11_method_10_code 48 = .ok (.return_, 1) := by decide +kernel
theorem dWa_reach_49 : decode prog_11_method_10_code 49 = .ok (.iload 4, 2) := by decide +kernel
theorem dWa_reach_51 : decode prog_11_method_10_code 51 = .ok (.iconst (1), 1) := by decide +kernel
theorem dWa_reach_52 : decode prog_11_method_10_code 52 = .ok (.iadd, 1) := by decide +kernel
theorem dWa_reach_53 : decode prog_11_method_10_code 53 = .ok (.sipush (8191), 3) := by decide +kernel
theorem dWa_reach_56 : decode prog_11_method_10_code 56 = .ok (.iand, 1) := by decide +kernel
theorem dWa_reach_57 : decode prog_11_method_10_code 57 = .ok (.istore 4, 2) := by decide +kernel
theorem dWa_reach_59 : decode prog_11_method_10_code 59 = .ok (.iinc 5 (1), 3) := by decide +kernel
theorem dWa_reach_62 : decode prog_11_method_10_code 62 = .ok (.goto (-50), 3) := by decide +kernel
theorem dWa_reach_65 : decode prog_11_method_10_code 65 = .ok (.aload_n 0, 1) := by decide +kernel
theorem dWa_reach_66 : decode prog_11_method_10_code 66 = .ok (.getfield 38, 3) := by decide +kernel
theorem dWa_reach_69 : decode prog_11_method_10_code 69 = .ok (.sipush (4000), 3) := by decide +kernel
theorem dWa_reach_72 : decode prog_11_method_10_code 72 = .ok (.if_icmp .lt (9), 3) := by decide +kernel
theorem dWa_reach_75 : decode prog_11_method_10_code 75 = .ok (.aload_n 0, 1) := by decide +kernel
theorem dWa_reach_76 : decode prog_11_method_10_code 76 = .ok (.iconst (1), 1) := by decide +kernel
theorem dWa_reach_77 : decode prog_11_method_10_code 77 = .ok (.putfield 44, 3) := by decide +kernel
theorem dWa_reach_80 : decode prog_11_method_10_code 80 = .ok (.return_, 1) := by decide +kernel
theorem dWa_reach_81 : decode prog_11_method_10_code 81 = .ok (.aload_n 0, 1) := by decide +kernel
theorem dWa_reach_82 : decode prog_11_method_10_code 82 = .ok (.getfield 9, 3) := by decide +kernel
theorem dWa_reach_85 : decode prog_11_method_10_code 85 = .ok (.aload_n 0, 1) := by decide +kernel
theorem dWa_reach_86 : decode prog_11_method_10_code 86 = .ok (.getfield 38, 3) := by decide +kernel
theorem dWa_reach_89 : decode prog_11_method_10_code 89 = .ok (.iload_n 1, 1) := by decide +kernel
theorem dWa_reach_90 : decode prog_11_method_10_code 90 = .ok (.iastore, 1) := by decide +kernel
theorem dWa_reach_91 : decode prog_11_method_10_code 91 = .ok (.aload_n 0, 1) := by decide +kernel
theorem dWa_reach_92 : decode prog_11_method_10_code 92 = .ok (.getfield 15, 3) := by decide +kernel
theorem dWa_reach_95 : decode prog_11_method_10_code 95 = .ok (.aload_n 0, 1) := by decide +kernel
theorem dWa_reach_96 : decode prog_11_method_10_code 96 = .ok (.getfield 38, 3) := by decide +kernel
theorem dWa_reach_99 : decode prog_11_method_10_code 99 = .ok (.iload_n 2, 1) := by decide +kernel
theorem dWa_reach_100 : decode prog_11_method_10_code 100 = .ok (.iastore, 1) := by decide +kernel
theorem dWa_reach_101 : decode prog_11_method_10_code 101 = .ok (.aload_n 0, 1) := by decide +kernel
theorem dWa_reach_102 : decode prog_11_method_10_code 102 = .ok (.getfield 18, 3) := by decide +kernel
theorem dWa_reach_105 : decode prog_11_method_10_code 105 = .ok (.aload_n 0, 1) := by decide +kernel
theorem dWa_reach_106 : decode prog_11_method_10_code 106 = .ok (.getfield 38, 3) := by decide +kernel
theorem dWa_reach_109 : decode prog_11_method_10_code 109 = .ok (.iload_n 3, 1) := by decide +kernel
theorem dWa_reach_110 : decode prog_11_method_10_code 110 = .ok (.iastore, 1) := by decide +kernel
theorem dWa_reach_111 : decode prog_11_method_10_code 111 = .ok (.aload_n 0, 1) := by decide +kernel
theorem dWa_reach_112 : decode prog_11_method_10_code 112 = .ok (.dup, 1) := by decide +kernel
theorem dWa_reach_113 : decode prog_11_method_10_code 113 = .ok (.getfield 38, 3) := by decide +kernel
theorem dWa_reach_116 : decode prog_11_method_10_code 116 = .ok (.iconst (1), 1) := by decide +kernel
theorem dWa_reach_117 : decode prog_11_method_10_code 117 = .ok (.iadd, 1) := by decide +kernel
theorem dWa_reach_118 : decode prog_11_method_10_code 118 = .ok (.putfield 38, 3) := by decide +kernel
theorem dWa_reach_121 : decode prog_11_method_10_code 121 = .ok (.aload_n 0, 1) := by decide +kernel
theorem dWa_reach_122 : decode prog_11_method_10_code 122 = .ok (.getfield 21, 3) := by decide +kernel
theorem dWa_reach_125 : decode prog_11_method_10_code 125 = .ok (.iload 4, 2) := by decide +kernel
theorem dWa_reach_127 : decode prog_11_method_10_code 127 = .ok (.aload_n 0, 1) := by decide +kernel
theorem dWa_reach_128 : decode prog_11_method_10_code 128 = .ok (.getfield 38, 3) := by decide +kernel
theorem dWa_reach_131 : decode prog_11_method_10_code 131 = .ok (.iastore, 1) := by decide +kernel
theorem dWa_reach_132 : decode prog_11_method_10_code 132 = .ok (.return_, 1) := by decide +kernel
theorem dWo_movedWithin_0 : decode prog_12_method_9_code 0 = .ok (.lload_n 0, 1) := by decide +kernel
theorem dWo_movedWithin_1 : decode prog_12_method_9_code 1 = .ok (.getstatic 27, 3) := by decide +kernel
theorem dWo_movedWithin_4 : decode prog_12_method_9_code 4 = .ok (.iload_n 2, 1) := by decide +kernel
theorem dWo_movedWithin_5 : decode prog_12_method_9_code 5 = .ok (.laload, 1) := by decide +kernel
theorem dWo_movedWithin_6 : decode prog_12_method_9_code 6 = .ok (.land, 1) := by decide +kernel
theorem dWo_movedWithin_7 : decode prog_12_method_9_code 7 = .ok (.lstore 4, 2) := by decide +kernel
theorem dWo_movedWithin_9 : decode prog_12_method_9_code 9 = .ok (.lload_n 0, 1) := by decide +kernel
theorem dWo_movedWithin_10 : decode prog_12_method_9_code 10 = .ok (.getstatic 27, 3) := by decide +kernel
theorem dWo_movedWithin_13 : decode prog_12_method_9_code 13 = .ok (.iload_n 2, 1) := by decide +kernel
theorem dWo_movedWithin_14 : decode prog_12_method_9_code 14 = .ok (.laload, 1) := by decide +kernel
theorem dWo_movedWithin_15 : decode prog_12_method_9_code 15 = .ok (.ldc2_w 34, 3) := by decide +kernel
theorem dWo_movedWithin_18 : decode prog_12_method_9_code 18 = .ok (.lxor, 1) := by decide +kernel
theorem dWo_movedWithin_19 : decode prog_12_method_9_code 19 = .ok (.land, 1) := by decide +kernel
theorem dWo_movedWithin_20 : decode prog_12_method_9_code 20 = .ok (.lstore 6, 2) := by decide +kernel
theorem dWo_movedWithin_22 : decode prog_12_method_9_code 22 = .ok (.iload_n 3, 1) := by decide +kernel
theorem dWo_movedWithin_23 : decode prog_12_method_9_code 23 = .ok (.ifCond .eq (15), 3) := by decide +kernel
theorem dWo_movedWithin_26 : decode prog_12_method_9_code 26 = .ok (.lload 4, 2) := by decide +kernel
theorem dWo_movedWithin_28 : decode prog_12_method_9_code 28 = .ok (.lload 6, 2) := by decide +kernel
theorem dWo_movedWithin_30 : decode prog_12_method_9_code 30 = .ok (.iconst (1), 1) := by decide +kernel
theorem dWo_movedWithin_31 : decode prog_12_method_9_code 31 = .ok (.iload_n 2, 1) := by decide +kernel
theorem dWo_movedWithin_32 : decode prog_12_method_9_code 32 = .ok (.ishl, 1) := by decide +kernel
theorem dWo_movedWithin_33 : decode prog_12_method_9_code 33 = .ok (.lshl, 1) := by decide +kernel
theorem dWo_movedWithin_34 : decode prog_12_method_9_code 34 = .ok (.lor, 1) := by decide +kernel
theorem dWo_movedWithin_35 : decode prog_12_method_9_code 35 = .ok (.goto (12), 3) := by decide +kernel
theorem dWo_movedWithin_38 : decode prog_12_method_9_code 38 = .ok (.lload 6, 2) := by decide +kernel
theorem dWo_movedWithin_40 : decode prog_12_method_9_code 40 = .ok (.lload 4, 2) := by decide +kernel
theorem dWo_movedWithin_42 : decode prog_12_method_9_code 42 = .ok (.iconst (1), 1) := by decide +kernel
theorem dWo_movedWithin_43 : decode prog_12_method_9_code 43 = .ok (.iload_n 2, 1) := by decide +kernel
theorem dWo_movedWithin_44 : decode prog_12_method_9_code 44 = .ok (.ishl, 1) := by decide +kernel
theorem dWo_movedWithin_45 : decode prog_12_method_9_code 45 = .ok (.lushr, 1) := by decide +kernel
theorem dWo_movedWithin_46 : decode prog_12_method_9_code 46 = .ok (.lor, 1) := by decide +kernel
theorem dWo_movedWithin_47 : decode prog_12_method_9_code 47 = .ok (.lreturn, 1) := by decide +kernel
theorem dWo_move_0 : decode prog_12_method_8_code 0 = .ok (.iconst (0), 1) := by decide +kernel
theorem dWo_move_1 : decode prog_12_method_8_code 1 = .ok (.istore_n 3, 1) := by decide +kernel
theorem dWo_move_2 : decode prog_12_method_8_code 2 = .ok (.iload_n 3, 1) := by decide +kernel
theorem dWo_move_3 : decode prog_12_method_8_code 3 = .ok (.bipush (64), 2) := by decide +kernel
theorem dWo_move_5 : decode prog_12_method_8_code 5 = .ok (.if_icmp .ge (81), 3) := by decide +kernel
theorem dWo_move_8 : decode prog_12_method_8_code 8 = .ok (.iload_n 1, 1) := by decide +kernel
theorem dWo_move_9 : decode prog_12_method_8_code 9 = .ok (.bipush (6), 2) := by decide +kernel
theorem dWo_move_11 : decode prog_12_method_8_code 11 = .ok (.if_icmp .ge (23), 3) := by decide +kernel
theorem dWo_move_14 : decode prog_12_method_8_code 14 = .ok (.aload_n 0, 1) := by decide +kernel
theorem dWo_move_15 : decode prog_12_method_8_code 15 = .ok (.getfield 9, 3) := by decide +kernel
theorem dWo_move_18 : decode prog_12_method_8_code 18 = .ok (.iload_n 3, 1) := by decide +kernel
theorem dWo_move_19 : decode prog_12_method_8_code 19 = .ok (.aload_n 0, 1) := by decide +kernel
theorem dWo_move_20 : decode prog_12_method_8_code 20 = .ok (.getfield 9, 3) := by decide +kernel
theorem dWo_move_23 : decode prog_12_method_8_code 23 = .ok (.iload_n 3, 1) := by decide +kernel
theorem dWo_move_24 : decode prog_12_method_8_code 24 = .ok (.laload, 1) := by decide +kernel
theorem dWo_move_25 : decode prog_12_method_8_code 25 = .ok (.iload_n 1, 1) := by decide +kernel
theorem dWo_move_26 : decode prog_12_method_8_code 26 = .ok (.iload_n 2, 1) := by decide +kernel
theorem dWo_move_27 : decode prog_12_method_8_code 27 = .ok (.invokestatic 53, 3) := by decide +kernel
theorem dWo_move_30 : decode prog_12_method_8_code 30 = .ok (.lastore, 1) := by decide +kernel
theorem dWo_move_31 : decode prog_12_method_8_code 31 = .ok (.goto (49), 3) := by decide +kernel
theorem dWo_move_34 : decode prog_12_method_8_code 34 = .ok (.iload_n 3, 1) := by decide +kernel
theorem dWo_move_35 : decode prog_12_method_8_code 35 = .ok (.iload_n 1, 1) := by decide +kernel
theorem dWo_move_36 : decode prog_12_method_8_code 36 = .ok (.bipush (6), 2) := by decide +kernel
theorem dWo_move_38 : decode prog_12_method_8_code 38 = .ok (.isub, 1) := by decide +kernel
theorem dWo_move_39 : decode prog_12_method_8_code 39 = .ok (.invokestatic 30, 3) := by decide +kernel
theorem dWo_move_42 : decode prog_12_method_8_code 42 = .ok (.iload_n 2, 1) := by decide +kernel
theorem dWo_move_43 : decode prog_12_method_8_code 43 = .ok (.if_icmp .ne (37), 3) := by decide +kernel
theorem dWo_move_46 : decode prog_12_method_8_code 46 = .ok (.iload_n 3, 1) := by decide +kernel
theorem dWo_move_47 : decode prog_12_method_8_code 47 = .ok (.iconst (1), 1) := by decide +kernel
theorem dWo_move_48 : decode prog_12_method_8_code 48 = .ok (.iload_n 1, 1) := by decide +kernel
theorem dWo_move_49 : decode prog_12_method_8_code 49 = .ok (.bipush (6), 2) := by decide +kernel
theorem dWo_move_51 : decode prog_12_method_8_code 51 = .ok (.isub, 1) := by decide +kernel
theorem dWo_move_52 : decode prog_12_method_8_code 52 = .ok (.ishl, 1) := by decide +kernel
theorem dWo_move_53 : decode prog_12_method_8_code 53 = .ok (.ixor, 1) := by decide +kernel
theorem dWo_move_54 : decode prog_12_method_8_code 54 = .ok (.istore 4, 2) := by decide +kernel
theorem dWo_move_56 : decode prog_12_method_8_code 56 = .ok (.aload_n 0, 1) := by decide +kernel
theorem dWo_move_57 : decode prog_12_method_8_code 57 = .ok (.getfield 9, 3) := by decide +kernel
theorem dWo_move_60 : decode prog_12_method_8_code 60 = .ok (.iload_n 3, 1) := by decide +kernel
theorem dWo_move_61 : decode prog_12_method_8_code 61 = .ok (.dup2, 1) := by decide +kernel
theorem dWo_move_62 : decode prog_12_method_8_code 62 = .ok (.laload, 1) := by decide +kernel
theorem dWo_move_63 : decode prog_12_method_8_code 63 = .ok (.aload_n 0, 1) := by decide +kernel
theorem dWo_move_64 : decode prog_12_method_8_code 64 = .ok (.getfield 9, 3) := by decide +kernel
theorem dWo_move_67 : decode prog_12_method_8_code 67 = .ok (.iload 4, 2) := by decide +kernel
theorem dWo_move_69 : decode prog_12_method_8_code 69 = .ok (.laload, 1) := by decide +kernel
theorem dWo_move_70 : decode prog_12_method_8_code 70 = .ok (.lor, 1) := by decide +kernel
theorem dWo_move_71 : decode prog_12_method_8_code 71 = .ok (.lastore, 1) := by decide +kernel
theorem dWo_move_72 : decode prog_12_method_8_code 72 = .ok (.aload_n 0, 1) := by decide +kernel
theorem dWo_move_73 : decode prog_12_method_8_code 73 = .ok (.getfield 9, 3) := by decide +kernel
theorem dWo_move_76 : decode prog_12_method_8_code 76 = .ok (.iload 4, 2) := by decide +kernel
theorem dWo_move_78 : decode prog_12_method_8_code 78 = .ok (.lconst 0, 1) := by decide +kernel
theorem dWo_move_79 : decode prog_12_method_8_code 79 = .ok (.lastore, 1) := by decide +kernel
theorem dWo_move_80 : decode prog_12_method_8_code 80 = .ok (.iinc 3 (1), 3) := by decide +kernel
theorem dWo_move_83 : decode prog_12_method_8_code 83 = .ok (.goto (-81), 3) := by decide +kernel
theorem dWo_move_86 : decode prog_12_method_8_code 86 = .ok (.return_, 1) := by decide +kernel
end
section
def f_Pa_link_L3 (y0 : Nat) (y1 : Int64) (y3 : Int64) : Nat → Int32 → AH → Option (AH)
  | 0, _, _ => none
  | n + 1, z5, h =>
    (gI 7 h y0 4).bind fun x1 =>
    if x1 < z5 then
      some h
    else
      if (lg_cmp ((xlshr y1 z5) &&& (1 : Int64)) (0 : Int64)) = (0 : Int32) then
        f_Pa_link_L3 y0 y1 y3 n (z5 + (1 : Int32)) h
      else
        (gR 7 h y0 6).bind fun r2 =>
        (r2).bind fun a3 =>
        (rJ h a3 z5).bind fun x4 =>
        (wJ h a3 z5 (x4 ||| y3)).bind fun h5 =>
        f_Pa_link_L3 y0 y1 y3 n (z5 + (1 : Int32)) h5
def f_Pa_link (h0 : AH) (o : Nat) (p1 : Int64) (p2 : Int64) : Option (AH) :=
  f_Pa_link_L3 o p1 p2 FU (1 : Int32) h0
def f_C_hasBit (h0 : AH) (p1 : Int32) (p2 : Int32) : Option (Int32) :=
  if ((p1 >>> (p2 &&& 31)) &&& (1 : Int32)) = (0 : Int32) then
    some ((0 : Int32))
  else
    some ((1 : Int32))
def f_C_talkNumbered (h0 : AH) (o : Nat) (p1 : Int32) : Option (Option Nat) :=
  if p1 < (0 : Int32) then
    some (none)
  else
    (gI 0 h0 o 2).bind fun x1 =>
    if p1 < x1 then
      (gR 0 h0 o 1).bind fun r2 =>
      (r2).bind fun a3 =>
      (rR 9 h0 a3 p1).bind fun r4 =>
      some (r4)
    else
      some (none)
def f_Wa_reach_L12 (h0 : AH) (y0 : Nat) (y1 : Int32) (y2 : Int32) (y3 : Int32) (k : Int32 → Option (AH)) : Nat → Int32 → Int32 → Option (AH)
  | 0, _, _ => none
  | n + 1, z4, z5 =>
    if z5 < (8192 : Int32) then
      (gR 10 h0 y0 4).bind fun r2 =>
      (r2).bind fun a3 =>
      (rI 1 h0 a3 z4).bind fun x4 =>
      if x4 = (0 : Int32) then
        k z4
      else
        (gR 10 h0 y0 0).bind fun r5 =>
        (gR 10 h0 y0 4).bind fun r6 =>
        (r6).bind fun a7 =>
        (rI 1 h0 a7 z4).bind fun x8 =>
        (r5).bind fun a9 =>
        (rI 1 h0 a9 (x8 - (1 : Int32))).bind fun x10 =>
        if x10 = y1 then
          some h0
        else
          (some (((z4 + (1 : Int32)) &&& (8191 : Int32)))).bind fun x11 =>
          f_Wa_reach_L12 h0 y0 y1 y2 y3 k n x11 (z5 + (1 : Int32))
    else
      k z4
def f_Wa_reach (h0 : AH) (o : Nat) (p1 : Int32) (p2 : Int32) (p3 : Int32) : Option (AH) :=
  (some ((xushr (p1 * (-1640531535 : Int32)) (19 : Int32)))).bind fun x1 =>
  f_Wa_reach_L12 h0 o p1 p2 p3 (fun x12 =>
    (gI 10 h0 o 3).bind fun x13 =>
    if x13 < (4000 : Int32) then
      (gR 10 h0 o 0).bind fun r14 =>
      (gI 10 h0 o 3).bind fun x15 =>
      (r14).bind fun a16 =>
      (wI h0 a16 x15 p1).bind fun h17 =>
      (gR 10 h17 o 1).bind fun r18 =>
      (gI 10 h17 o 3).bind fun x19 =>
      (r18).bind fun a20 =>
      (wI h17 a20 x19 p2).bind fun h21 =>
      (gR 10 h21 o 2).bind fun r22 =>
      (gI 10 h21 o 3).bind fun x23 =>
      (r22).bind fun a24 =>
      (wI h21 a24 x23 p3).bind fun h25 =>
      (gI 10 h25 o 3).bind fun x26 =>
      (pI 10 h25 o 3 (x26 + (1 : Int32))).bind fun h27 =>
      (gR 10 h27 o 4).bind fun r28 =>
      (gI 10 h27 o 3).bind fun x29 =>
      (r28).bind fun a30 =>
      (wI h27 a30 x12 x29).bind fun h31 =>
      some h31
    else
      (pZ 10 h0 o 5 (1 : Int32)).bind fun h32 =>
      some h32
  ) FU x1 (0 : Int32)
def f_Wo_movedWithin (h0 : AH) (p1 : Int64) (p2 : Int32) (p3 : Int32) : Option (Int64) :=
  (rJ h0 2 p2).bind fun x1 =>
  (rJ h0 2 p2).bind fun x2 =>
  if p3 = (0 : Int32) then
    some (((p1 &&& (x2 ^^^ (-1 : Int64))) ||| (xlushr (p1 &&& x1) ((1 : Int32) <<< (p2 &&& 31)))))
  else
    some (((p1 &&& x1) ||| (xlshl (p1 &&& (x2 ^^^ (-1 : Int64))) ((1 : Int32) <<< (p2 &&& 31)))))
def f_Wo_move_L2 (y0 : Nat) (y1 : Int32) (y2 : Int32) : Nat → Int32 → AH → Option (AH)
  | 0, _, _ => none
  | n + 1, z3, h =>
    if z3 < (64 : Int32) then
      if y1 < (6 : Int32) then
        (gR 11 h y0 0).bind fun r13 =>
        (gR 11 h y0 0).bind fun r14 =>
        (r14).bind fun a15 =>
        (rJ h a15 z3).bind fun x16 =>
        (f_Wo_movedWithin h x16 y1 y2).bind fun x17 =>
        (r13).bind fun a18 =>
        (wJ h a18 z3 x17).bind fun h19 =>
        f_Wo_move_L2 y0 y1 y2 n (z3 + (1 : Int32)) h19
      else
        (f_C_hasBit h z3 (y1 - (6 : Int32))).bind fun x1 =>
        if x1 = y2 then
          (some ((z3 ^^^ ((1 : Int32) <<< ((y1 - (6 : Int32)) &&& 31))))).bind fun x2 =>
          (gR 11 h y0 0).bind fun r3 =>
          (r3).bind fun a4 =>
          (rJ h a4 z3).bind fun x5 =>
          (gR 11 h y0 0).bind fun r6 =>
          (r6).bind fun a7 =>
          (rJ h a7 x2).bind fun x8 =>
          (wJ h a4 z3 (x5 ||| x8)).bind fun h9 =>
          (gR 11 h9 y0 0).bind fun r10 =>
          (r10).bind fun a11 =>
          (wJ h9 a11 x2 (0 : Int64)).bind fun h12 =>
          f_Wo_move_L2 y0 y1 y2 n (z3 + (1 : Int32)) h12
        else
          f_Wo_move_L2 y0 y1 y2 n (z3 + (1 : Int32)) h
    else
      some h
def f_Wo_move (h0 : AH) (o : Nat) (p1 : Int32) (p2 : Int32) : Option (AH) :=
  f_Wo_move_L2 o p1 p2 FU (0 : Int32) h0
end
section
theorem w_Pa_link_L3 {l : Launch} {E : EN} {R : Room} {B : (Nat × Nat) × (Nat × Nat)} {Qf : QF} {hF : AH} (hR1 : 1 ≤ R.frames) (hR2 : 64 ≤ R.locals) (Hr : ∀ (pc : Nat) (L : List (Option Value)), decode mi_Pa_link.2.1 pc = .ok (.return_, 1) → AW l E mi_Pa_link R B Qf pc L [] hF) {y0 : Nat} {y1 : Int64} {y3 : Int64} : ∀ (n : Nat) (z5 : Int32) (h : AH), f_Pa_link_L3 y0 y1 y3 n z5 h = some hF → AW l E mi_Pa_link R B Qf 3 [some (va_rf (some y0)), some (.long y1), none, some (.long y3), none, some (.int z5)] [] h := by
  intro n
  induction n with
  | zero => intro z5 h hf; cases hf
  | succ n ih =>
    intro z5 h hf
    rw [f_Pa_link_L3] at hf
    refine ax_iload (i := 5) dPa_link_3 rfl ?_
    refine ax_aload_n (i := 0) (some y0) dPa_link_5 rfl rfl ?_
    replace hf := bd1_s hf
    obtain ⟨x1, e_x1, hf⟩ := hf
    refine ax_getI fl_85 rfl dPa_link_6 e_x1 ?_
    replace hf := ite_c hf
    rcases hf with ⟨hc, hf⟩ | ⟨hc, hf⟩
    · refine ax_icmp_gtT 40 dPa_link_9 (by decide) hc ?_
      cases hf
      exact Hr _ _ dPa_link_40
    · refine ax_icmp_gtF 40 dPa_link_9 (by decide) hc ?_
      refine ax_lload_n (i := 1) dPa_link_12 rfl rfl ?_
      refine ax_iload (i := 5) dPa_link_13 rfl ?_
      refine ax_lshr dPa_link_15 ?_
      refine ax_lconst (1 : Int64) dPa_link_16 kl_1 ?_
      refine ax_land dPa_link_17 ?_
      refine ax_lconst (0 : Int64) dPa_link_18 kl_0 ?_
      refine ax_lcmp dPa_link_19 ?_
      replace hf := ite_c hf
      rcases hf with ⟨hc, hf⟩ | ⟨hc, hf⟩
      · refine ax_if_eqT 34 dPa_link_20 (by decide) hc ?_
        refine ax_iinc (i := 5) (z5 + (1 : Int32)) [some (va_rf (some y0)), some (.long y1), none, some (.long y3), none, some (.int (z5 + (1 : Int32)))] dPa_link_34 rfl (iic k32_1) (Or.inr (c1n rfl)) rfl ?_
        refine ax_goto 3 dPa_link_37 (by decide) ?_
        exact ih (z5 + (1 : Int32)) h hf
      · refine ax_if_eqF 34 dPa_link_20 (by decide) hc ?_
        refine ax_aload_n (i := 0) (some y0) dPa_link_23 rfl rfl ?_
        replace hf := bd1_s hf
        obtain ⟨r2, e_r2, hf⟩ := hf
        refine ax_getR fl_89 rfl dPa_link_24 e_r2 ?_
        refine ax_iload (i := 5) dPa_link_27 rfl ?_
        refine ax_dup2 dPa_link_29 rfl (cat_rf _) ?_
        replace hf := bd1_s hf
        obtain ⟨a3, e_d, hf⟩ := hf
        subst e_d
        replace hf := bd1_s hf
        obtain ⟨x4, e_x4, hf⟩ := hf
        refine ax_lald dPa_link_30 e_x4 ?_
        refine ax_lload_n (i := 3) dPa_link_31 rfl rfl ?_
        refine ax_lor dPa_link_32 ?_
        replace hf := bd1_s hf
        obtain ⟨h5, e_h5, hf⟩ := hf
        refine ax_last dPa_link_33 e_h5 ?_
        refine ax_iinc (i := 5) (z5 + (1 : Int32)) [some (va_rf (some y0)), some (.long y1), none, some (.long y3), none, some (.int (z5 + (1 : Int32)))] dPa_link_34 rfl (iic k32_1) (Or.inr (c1n rfl)) rfl ?_
        refine ax_goto 3 dPa_link_37 (by decide) ?_
        exact ih (z5 + (1 : Int32)) h5 hf
theorem v_Pa_link {l : Launch} {E : EN} {R : Room} {B : (Nat × Nat) × (Nat × Nat)} {Qf : QF} {h0 : AH} {o : Nat} {p1 : Int64} {p2 : Int64} {hF : AH} (hR1 : 1 ≤ R.frames) (hR2 : 64 ≤ R.locals) (Hr : ∀ (pc : Nat) (L : List (Option Value)), decode mi_Pa_link.2.1 pc = .ok (.return_, 1) → AW l E mi_Pa_link R B Qf pc L [] hF) (hf : f_Pa_link h0 o p1 p2 = some hF) : AW l E mi_Pa_link R B Qf 0 [some (va_rf (some o)), some (.long p1), none, some (.long p2), none, none] [] h0 := by
  unfold f_Pa_link at hf
  refine ax_iconst (1 : Int32) dPa_link_0 k32_1 ?_
  refine ax_istore (i := 5) [some (va_rf (some o)), some (.long p1), none, some (.long p2), none, some (.int (1 : Int32))] dPa_link_1 (Nat.le_of_ble_eq_true rfl) (Or.inr (c1n rfl)) rfl ?_
  refine w_Pa_link_L3 hR1 hR2 Hr FU (1 : Int32) h0 hf
theorem c_Pa_link {l : Launch} {E : EN} {h0 : AH} {o : Nat} {p1 : Int64} {p2 : Int64} {hF : AH} (hf : f_Pa_link h0 o p1 p2 = some hF) : AM l E 1 mi_Pa_link [va_rf (some o), .long p1, .long p2] h0 none hF :=
  am_of2 [(va_rf (some o), false), (.long p1, true), (.long p2, true)] 1 ⟨cat_rf _, rfl, rfl, trivial⟩ rfl rfl (v_Pa_link (Nat.le_refl _) (Nat.le_refl _) (fun pc L hd => ax_vret rfl hd rfl) hf)
theorem v_C_hasBit {l : Launch} {E : EN} {R : Room} {B : (Nat × Nat) × (Nat × Nat)} {Qf : QF} {h0 : AH} {p1 : Int32} {p2 : Int32} {r : Int32} (hR1 : 1 ≤ R.frames) (hR2 : 64 ≤ R.locals) (Hr : (r = 0 ∨ r = 1) → ∀ (pc : Nat) (L : List (Option Value)), decode mi_C_hasBit.2.1 pc = .ok (.ireturn, 1) → AW l E mi_C_hasBit R B Qf pc L [.int r] h0) (hf : f_C_hasBit h0 p1 p2 = some r) : AW l E mi_C_hasBit R B Qf 0 [some (.int p1), some (.int p2)] [] h0 := by
  unfold f_C_hasBit at hf
  refine ax_iload_n (i := 0) dC_hasBit_0 rfl rfl ?_
  refine ax_iload_n (i := 1) dC_hasBit_1 rfl rfl ?_
  refine ax_ishr dC_hasBit_2 ?_
  refine ax_iconst (1 : Int32) dC_hasBit_3 k32_1 ?_
  refine ax_iand dC_hasBit_4 ?_
  replace hf := ite_c hf
  rcases hf with ⟨hc, hf⟩ | ⟨hc, hf⟩
  · refine ax_if_eqT 12 dC_hasBit_5 (by decide) hc ?_
    refine ax_iconst (0 : Int32) dC_hasBit_12 k32_0 ?_
    cases hf
    exact Hr (Or.inl rfl) _ _ dC_hasBit_13
  · refine ax_if_eqF 12 dC_hasBit_5 (by decide) hc ?_
    refine ax_iconst (1 : Int32) dC_hasBit_8 k32_1 ?_
    refine ax_goto 13 dC_hasBit_9 (by decide) ?_
    cases hf
    exact Hr (Or.inr rfl) _ _ dC_hasBit_13
theorem c_C_hasBit {l : Launch} {E : EN} {h0 : AH} {p1 : Int32} {p2 : Int32} {r : Int32} (hf : f_C_hasBit h0 p1 p2 = some r) : AM l E 1 mi_C_hasBit [.int p1, .int p2] h0 (some (.int r)) h0 :=
  am_of2 [(.int p1, false), (.int p2, false)] 0 ⟨rfl, rfl, trivial⟩ rfl rfl (v_C_hasBit (Nat.le_refl _) (Nat.le_refl _) (fun hz pc L hd => ax_zret rfl hz hd rfl) hf)
theorem v_C_talkNumbered {l : Launch} {E : EN} {R : Room} {B : (Nat × Nat) × (Nat × Nat)} {Qf : QF} {h0 : AH} {o : Nat} {p1 : Int32} {r : Option Nat} (hR1 : 1 ≤ R.frames) (hR2 : 64 ≤ R.locals) (Hr : ∀ (pc : Nat) (L : List (Option Value)), decode mi_C_talkNumbered.2.1 pc = .ok (.areturn, 1) → AW l E mi_C_talkNumbered R B Qf pc L [va_rf r] h0) (hf : f_C_talkNumbered h0 o p1 = some r) : AW l E mi_C_talkNumbered R B Qf 0 [some (va_rf (some o)), some (.int p1)] [] h0 := by
  unfold f_C_talkNumbered at hf
  refine ax_iload_n (i := 1) dC_talkNumbered_0 rfl rfl ?_
  replace hf := ite_c hf
  rcases hf with ⟨hc, hf⟩ | ⟨hc, hf⟩
  · refine ax_if_ltT 12 dC_talkNumbered_1 (by decide) hc ?_
    refine ax_null dC_talkNumbered_12 ?_
    refine ax_goto 22 dC_talkNumbered_13 (by decide) ?_
    cases hf
    exact Hr _ _ dC_talkNumbered_22
  · refine ax_if_ltF 12 dC_talkNumbered_1 (by decide) hc ?_
    refine ax_iload_n (i := 1) dC_talkNumbered_4 rfl rfl ?_
    refine ax_aload_n (i := 0) (some o) dC_talkNumbered_5 rfl rfl ?_
    replace hf := bd1_s hf
    obtain ⟨x1, e_x1, hf⟩ := hf
    refine ax_getI fl_323 rfl dC_talkNumbered_6 e_x1 ?_
    replace hf := ite_c hf
    rcases hf with ⟨hc, hf⟩ | ⟨hc, hf⟩
    · refine ax_icmp_ltT 16 dC_talkNumbered_9 (by decide) hc ?_
      refine ax_aload_n (i := 0) (some o) dC_talkNumbered_16 rfl rfl ?_
      replace hf := bd1_s hf
      obtain ⟨r2, e_r2, hf⟩ := hf
      refine ax_getR fl_322 rfl dC_talkNumbered_17 e_r2 ?_
      refine ax_iload_n (i := 1) dC_talkNumbered_20 rfl rfl ?_
      replace hf := bd1_s hf
      obtain ⟨a3, e_d, hf⟩ := hf
      subst e_d
      replace hf := bd1_s hf
      obtain ⟨r4, e_r4, hf⟩ := hf
      refine ax_aald (c := 9) (by decide) rfl rfl dC_talkNumbered_21 e_r4 ?_
      cases hf
      exact Hr _ _ dC_talkNumbered_22
    · refine ax_icmp_ltF 16 dC_talkNumbered_9 (by decide) hc ?_
      refine ax_null dC_talkNumbered_12 ?_
      refine ax_goto 22 dC_talkNumbered_13 (by decide) ?_
      cases hf
      exact Hr _ _ dC_talkNumbered_22
theorem c_C_talkNumbered {l : Launch} {E : EN} {h0 : AH} {o : Nat} {p1 : Int32} {r : Option Nat} (hf : f_C_talkNumbered h0 o p1 = some r) : AM l E 1 mi_C_talkNumbered [va_rf (some o), .int p1] h0 (some (va_rf r)) h0 :=
  am_of2 [(va_rf (some o), false), (.int p1, false)] 0 ⟨cat_rf _, rfl, trivial⟩ rfl rfl (v_C_talkNumbered (Nat.le_refl _) (Nat.le_refl _) (fun pc L hd => ax_aret rfl hd rfl) hf)
theorem w_Wa_reach_L12 {l : Launch} {E : EN} {R : Room} {B : (Nat × Nat) × (Nat × Nat)} {Qf : QF} {h0 : AH} {hF : AH} (hR1 : 1 ≤ R.frames) (hR2 : 64 ≤ R.locals) (Hr : ∀ (pc : Nat) (L : List (Option Value)), decode mi_Wa_reach.2.1 pc = .ok (.return_, 1) → AW l E mi_Wa_reach R B Qf pc L [] hF) {y0 : Nat} {y1 : Int32} {y2 : Int32} {y3 : Int32} {k : Int32 → Option (AH)} (hk : ∀ (z4 : Int32), k z4 = some hF → AW l E mi_Wa_reach R B Qf 65 [some (va_rf (some y0)), some (.int y1), some (.int y2), some (.int y3), some (.int z4), none] [] h0) : ∀ (n : Nat) (z4 : Int32) (z5 : Int32), f_Wa_reach_L12 h0 y0 y1 y2 y3 k n z4 z5 = some hF → AW l E mi_Wa_reach R B Qf 12 [some (va_rf (some y0)), some (.int y1), some (.int y2), some (.int y3), some (.int z4), some (.int z5)] [] h0 := by
  intro n
  induction n with
  | zero => intro z4 z5 hf; cases hf
  | succ n ih =>
    intro z4 z5 hf
    rw [f_Wa_reach_L12] at hf
    refine ax_iload (i := 5) dWa_reach_12 rfl ?_
    refine ax_sipush (8192 : Int32) dWa_reach_14 k16_8192 ?_
    replace hf := ite_c hf
    rcases hf with ⟨hc, hf⟩ | ⟨hc, hf⟩
    · refine ax_icmp_geF 65 dWa_reach_17 (by decide) hc ?_
      refine ax_aload_n (i := 0) (some y0) dWa_reach_20 rfl rfl ?_
      replace hf := bd1_s hf
      obtain ⟨r2, e_r2, hf⟩ := hf
      refine ax_getR fl_121 rfl dWa_reach_21 e_r2 ?_
      refine ax_iload (i := 4) dWa_reach_24 rfl ?_
      replace hf := bd1_s hf
      obtain ⟨a3, e_d, hf⟩ := hf
      subst e_d
      replace hf := bd1_s hf
      obtain ⟨x4, e_x4, hf⟩ := hf
      refine ax_iald dWa_reach_26 e_x4 ?_
      replace hf := ite_c hf
      rcases hf with ⟨hc, hf⟩ | ⟨hc, hf⟩
      · refine ax_if_eqT 65 dWa_reach_27 (by decide) hc ?_
        refine ax_mask [true, true, true, true, true, false] rfl [some (va_rf (some y0)), some (.int y1), some (.int y2), some (.int y3), some (.int z4), none] rfl ?_
        exact hk z4 hf
      · refine ax_if_eqF 65 dWa_reach_27 (by decide) hc ?_
        refine ax_aload_n (i := 0) (some y0) dWa_reach_30 rfl rfl ?_
        replace hf := bd1_s hf
        obtain ⟨r5, e_r5, hf⟩ := hf
        refine ax_getR fl_116 rfl dWa_reach_31 e_r5 ?_
        refine ax_aload_n (i := 0) (some y0) dWa_reach_34 rfl rfl ?_
        replace hf := bd1_s hf
        obtain ⟨r6, e_r6, hf⟩ := hf
        refine ax_getR fl_121 rfl dWa_reach_35 e_r6 ?_
        refine ax_iload (i := 4) dWa_reach_38 rfl ?_
        replace hf := bd1_s hf
        obtain ⟨a7, e_d, hf⟩ := hf
        subst e_d
        replace hf := bd1_s hf
        obtain ⟨x8, e_x8, hf⟩ := hf
        refine ax_iald dWa_reach_40 e_x8 ?_
        refine ax_iconst (1 : Int32) dWa_reach_41 k32_1 ?_
        refine ax_isub dWa_reach_42 ?_
        replace hf := bd1_s hf
        obtain ⟨a9, e_d, hf⟩ := hf
        subst e_d
        replace hf := bd1_s hf
        obtain ⟨x10, e_x10, hf⟩ := hf
        refine ax_iald dWa_reach_43 e_x10 ?_
        refine ax_iload_n (i := 1) dWa_reach_44 rfl rfl ?_
        replace hf := ite_c hf
        rcases hf with ⟨hc, hf⟩ | ⟨hc, hf⟩
        · refine ax_icmp_neF 49 dWa_reach_45 (by decide) hc ?_
          cases hf
          exact Hr _ _ dWa_reach_48
        · refine ax_icmp_neT 49 dWa_reach_45 (by decide) hc ?_
          refine ax_iload (i := 4) dWa_reach_49 rfl ?_
          refine ax_iconst (1 : Int32) dWa_reach_51 k32_1 ?_
          refine ax_iadd dWa_reach_52 ?_
          refine ax_sipush (8191 : Int32) dWa_reach_53 k16_8191 ?_
          refine ax_iand dWa_reach_56 ?_
          replace hf := bd1_s hf
          obtain ⟨x11, e_x11, hf⟩ := hf
          refine ax_nmI (Option.some.inj e_x11) ?_
          refine ax_istore (i := 4) [some (va_rf (some y0)), some (.int y1), some (.int y2), some (.int y3), some (.int x11), some (.int z5)] dWa_reach_57 (Nat.le_of_ble_eq_true rfl) (Or.inr (c1i rfl)) rfl ?_
          refine ax_iinc (i := 5) (z5 + (1 : Int32)) [some (va_rf (some y0)), some (.int y1), some (.int y2), some (.int y3), some (.int x11), some (.int (z5 + (1 : Int32)))] dWa_reach_59 rfl (iic k32_1) (Or.inr (c1i rfl)) rfl ?_
          refine ax_goto 12 dWa_reach_62 (by decide) ?_
          exact ih x11 (z5 + (1 : Int32)) hf
    · refine ax_icmp_geT 65 dWa_reach_17 (by decide) hc ?_
      refine ax_mask [true, true, true, true, true, false] rfl [some (va_rf (some y0)), some (.int y1), some (.int y2), some (.int y3), some (.int z4), none] rfl ?_
      exact hk z4 hf
theorem v_Wa_reach {l : Launch} {E : EN} {R : Room} {B : (Nat × Nat) × (Nat × Nat)} {Qf : QF} {h0 : AH} {o : Nat} {p1 : Int32} {p2 : Int32} {p3 : Int32} {hF : AH} (hR1 : 1 ≤ R.frames) (hR2 : 64 ≤ R.locals) (Hr : ∀ (pc : Nat) (L : List (Option Value)), decode mi_Wa_reach.2.1 pc = .ok (.return_, 1) → AW l E mi_Wa_reach R B Qf pc L [] hF) (hf : f_Wa_reach h0 o p1 p2 p3 = some hF) : AW l E mi_Wa_reach R B Qf 0 [some (va_rf (some o)), some (.int p1), some (.int p2), some (.int p3), none, none] [] h0 := by
  unfold f_Wa_reach at hf
  refine ax_iload_n (i := 1) dWa_reach_0 rfl rfl ?_
  refine ax_ldc w_548 dWa_reach_1 ?_
  refine ax_imul dWa_reach_3 ?_
  refine ax_bipush (19 : Int32) dWa_reach_4 k8_19 ?_
  refine ax_iushr dWa_reach_6 ?_
  replace hf := bd1_s hf
  obtain ⟨x1, e_x1, hf⟩ := hf
  refine ax_nmI (Option.some.inj e_x1) ?_
  refine ax_istore (i := 4) [some (va_rf (some o)), some (.int p1), some (.int p2), some (.int p3), some (.int x1), none] dWa_reach_7 (Nat.le_of_ble_eq_true rfl) (Or.inr (c1i rfl)) rfl ?_
  refine ax_iconst (0 : Int32) dWa_reach_9 k32_0 ?_
  refine ax_istore (i := 5) [some (va_rf (some o)), some (.int p1), some (.int p2), some (.int p3), some (.int x1), some (.int (0 : Int32))] dWa_reach_10 (Nat.le_of_ble_eq_true rfl) (Or.inr (c1i rfl)) rfl ?_
  refine w_Wa_reach_L12 hR1 hR2 Hr (fun x12 hf => ?_) FU x1 (0 : Int32) hf
  refine ax_aload_n (i := 0) (some o) dWa_reach_65 rfl rfl ?_
  replace hf := bd1_s hf
  obtain ⟨x13, e_x13, hf⟩ := hf
  refine ax_getI fl_119 rfl dWa_reach_66 e_x13 ?_
  refine ax_sipush (4000 : Int32) dWa_reach_69 k16_4000 ?_
  replace hf := ite_c hf
  rcases hf with ⟨hc, hf⟩ | ⟨hc, hf⟩
  · refine ax_icmp_ltT 81 dWa_reach_72 (by decide) hc ?_
    refine ax_aload_n (i := 0) (some o) dWa_reach_81 rfl rfl ?_
    replace hf := bd1_s hf
    obtain ⟨r14, e_r14, hf⟩ := hf
    refine ax_getR fl_116 rfl dWa_reach_82 e_r14 ?_
    refine ax_aload_n (i := 0) (some o) dWa_reach_85 rfl rfl ?_
    replace hf := bd1_s hf
    obtain ⟨x15, e_x15, hf⟩ := hf
    refine ax_getI fl_119 rfl dWa_reach_86 e_x15 ?_
    refine ax_iload_n (i := 1) dWa_reach_89 rfl rfl ?_
    replace hf := bd1_s hf
    obtain ⟨a16, e_d, hf⟩ := hf
    subst e_d
    replace hf := bd1_s hf
    obtain ⟨h17, e_h17, hf⟩ := hf
    refine ax_iast dWa_reach_90 e_h17 ?_
    refine ax_aload_n (i := 0) (some o) dWa_reach_91 rfl rfl ?_
    replace hf := bd1_s hf
    obtain ⟨r18, e_r18, hf⟩ := hf
    refine ax_getR fl_117 rfl dWa_reach_92 e_r18 ?_
    refine ax_aload_n (i := 0) (some o) dWa_reach_95 rfl rfl ?_
    replace hf := bd1_s hf
    obtain ⟨x19, e_x19, hf⟩ := hf
    refine ax_getI fl_119 rfl dWa_reach_96 e_x19 ?_
    refine ax_iload_n (i := 2) dWa_reach_99 rfl rfl ?_
    replace hf := bd1_s hf
    obtain ⟨a20, e_d, hf⟩ := hf
    subst e_d
    replace hf := bd1_s hf
    obtain ⟨h21, e_h21, hf⟩ := hf
    refine ax_iast dWa_reach_100 e_h21 ?_
    refine ax_aload_n (i := 0) (some o) dWa_reach_101 rfl rfl ?_
    replace hf := bd1_s hf
    obtain ⟨r22, e_r22, hf⟩ := hf
    refine ax_getR fl_118 rfl dWa_reach_102 e_r22 ?_
    refine ax_aload_n (i := 0) (some o) dWa_reach_105 rfl rfl ?_
    replace hf := bd1_s hf
    obtain ⟨x23, e_x23, hf⟩ := hf
    refine ax_getI fl_119 rfl dWa_reach_106 e_x23 ?_
    refine ax_iload_n (i := 3) dWa_reach_109 rfl rfl ?_
    replace hf := bd1_s hf
    obtain ⟨a24, e_d, hf⟩ := hf
    subst e_d
    replace hf := bd1_s hf
    obtain ⟨h25, e_h25, hf⟩ := hf
    refine ax_iast dWa_reach_110 e_h25 ?_
    refine ax_aload_n (i := 0) (some o) dWa_reach_111 rfl rfl ?_
    refine ax_dup dWa_reach_112 rfl ?_
    replace hf := bd1_s hf
    obtain ⟨x26, e_x26, hf⟩ := hf
    refine ax_getI fl_119 rfl dWa_reach_113 e_x26 ?_
    refine ax_iconst (1 : Int32) dWa_reach_116 k32_1 ?_
    refine ax_iadd dWa_reach_117 ?_
    replace hf := bd1_s hf
    obtain ⟨h27, e_h27, hf⟩ := hf
    refine ax_putI fw_119 rfl rfl dWa_reach_118 e_h27 ?_
    refine ax_aload_n (i := 0) (some o) dWa_reach_121 rfl rfl ?_
    replace hf := bd1_s hf
    obtain ⟨r28, e_r28, hf⟩ := hf
    refine ax_getR fl_121 rfl dWa_reach_122 e_r28 ?_
    refine ax_iload (i := 4) dWa_reach_125 rfl ?_
    refine ax_aload_n (i := 0) (some o) dWa_reach_127 rfl rfl ?_
    replace hf := bd1_s hf
    obtain ⟨x29, e_x29, hf⟩ := hf
    refine ax_getI fl_119 rfl dWa_reach_128 e_x29 ?_
    replace hf := bd1_s hf
    obtain ⟨a30, e_d, hf⟩ := hf
    subst e_d
    replace hf := bd1_s hf
    obtain ⟨h31, e_h31, hf⟩ := hf
    refine ax_iast dWa_reach_131 e_h31 ?_
    cases hf
    exact Hr _ _ dWa_reach_132
  · refine ax_icmp_ltF 81 dWa_reach_72 (by decide) hc ?_
    refine ax_aload_n (i := 0) (some o) dWa_reach_75 rfl rfl ?_
    refine ax_iconst (1 : Int32) dWa_reach_76 k32_1 ?_
    replace hf := bd1_s hf
    obtain ⟨h32, e_h32, hf⟩ := hf
    refine ax_putZ fw_122 rfl rfl dWa_reach_77 e_h32 ?_
    cases hf
    exact Hr _ _ dWa_reach_80
theorem c_Wa_reach {l : Launch} {E : EN} {h0 : AH} {o : Nat} {p1 : Int32} {p2 : Int32} {p3 : Int32} {hF : AH} (hf : f_Wa_reach h0 o p1 p2 p3 = some hF) : AM l E 1 mi_Wa_reach [va_rf (some o), .int p1, .int p2, .int p3] h0 none hF :=
  am_of2 [(va_rf (some o), false), (.int p1, false), (.int p2, false), (.int p3, false)] 2 ⟨cat_rf _, rfl, rfl, rfl, trivial⟩ rfl rfl (v_Wa_reach (Nat.le_refl _) (Nat.le_refl _) (fun pc L hd => ax_vret rfl hd rfl) hf)
theorem v_Wo_movedWithin {l : Launch} {E : EN} {R : Room} {B : (Nat × Nat) × (Nat × Nat)} {Qf : QF} {h0 : AH} {p1 : Int64} {p2 : Int32} {p3 : Int32} {r : Int64} (hR1 : 1 ≤ R.frames) (hR2 : 64 ≤ R.locals) (Hr : ∀ (pc : Nat) (L : List (Option Value)), decode mi_Wo_movedWithin.2.1 pc = .ok (.lreturn, 1) → AW l E mi_Wo_movedWithin R B Qf pc L [.long r] h0) (hf : f_Wo_movedWithin h0 p1 p2 p3 = some r) : AW l E mi_Wo_movedWithin R B Qf 0 [some (.long p1), none, some (.int p2), some (.int p3), none, none, none, none] [] h0 := by
  unfold f_Wo_movedWithin at hf
  refine ax_lload_n (i := 0) dWo_movedWithin_0 rfl rfl ?_
  refine ax_gets (j := 2) rfl (Or.inr ⟨_, w_912⟩) dWo_movedWithin_1 ?_
  refine ax_iload_n (i := 2) dWo_movedWithin_4 rfl rfl ?_
  replace hf := bd1_s hf
  obtain ⟨x1, e_x1, hf⟩ := hf
  refine ax_lald dWo_movedWithin_5 e_x1 ?_
  refine ax_land dWo_movedWithin_6 ?_
  refine ax_lstore (i := 4) [some (.long p1), none, some (.int p2), some (.int p3), some (va_rf (some (p1 &&& x1))), none, none, none] dWo_movedWithin_7 (Nat.le_of_ble_eq_true rfl) (Or.inr (c1i rfl)) rfl ?_
  refine ax_lload_n (i := 0) dWo_movedWithin_9 rfl rfl ?_
  refine ax_gets (j := 2) rfl (Or.inr ⟨_, w_912⟩) dWo_movedWithin_10 ?_
  refine ax_iload_n (i := 2) dWo_movedWithin_13 rfl rfl ?_
  replace hf := bd1_s hf
  obtain ⟨x2, e_x2, hf⟩ := hf
  refine ax_lald dWo_movedWithin_14 e_x2 ?_
  refine ax_ldc2 w_914 dWo_movedWithin_15 ?_
  refine ax_lxor dWo_movedWithin_18 ?_
  refine ax_land dWo_movedWithin_19 ?_
  refine ax_lstore (i := 6) [some (.long p1), none, some (.int p2), some (.int p3), some (va_rf (some (p1 &&& x1))), none, some (va_rf (some (p1 &&& (x2 ^^^ (-1 : Int64))))), none] dWo_movedWithin_20 (Nat.le_of_ble_eq_true rfl) (Or.inr (c1n rfl)) rfl ?_
  refine ax_iload_n (i := 3) dWo_movedWithin_22 rfl rfl ?_
  replace hf := ite_c hf
  rcases hf with ⟨hc, hf⟩ | ⟨hc, hf⟩
  · refine ax_if_eqT 38 dWo_movedWithin_23 (by decide) hc ?_
    refine ax_lload (i := 6) dWo_movedWithin_38 rfl ?_
    refine ax_lload (i := 4) dWo_movedWithin_40 rfl ?_
    refine ax_iconst (1 : Int32) dWo_movedWithin_42 k32_1 ?_
    refine ax_iload_n (i := 2) dWo_movedWithin_43 rfl rfl ?_
    refine ax_ishl dWo_movedWithin_44 ?_
    refine ax_lushr dWo_movedWithin_45 ?_
    refine ax_lor dWo_movedWithin_46 ?_
    cases hf
    exact Hr _ _ dWo_movedWithin_47
  · refine ax_if_eqF 38 dWo_movedWithin_23 (by decide) hc ?_
    refine ax_lload (i := 4) dWo_movedWithin_26 rfl ?_
    refine ax_lload (i := 6) dWo_movedWithin_28 rfl ?_
    refine ax_iconst (1 : Int32) dWo_movedWithin_30 k32_1 ?_
    refine ax_iload_n (i := 2) dWo_movedWithin_31 rfl rfl ?_
    refine ax_ishl dWo_movedWithin_32 ?_
    refine ax_lshl dWo_movedWithin_33 ?_
    refine ax_lor dWo_movedWithin_34 ?_
    refine ax_goto 47 dWo_movedWithin_35 (by decide) ?_
    cases hf
    exact Hr _ _ dWo_movedWithin_47
theorem c_Wo_movedWithin {l : Launch} {E : EN} {h0 : AH} {p1 : Int64} {p2 : Int32} {p3 : Int32} {r : Int64} (hf : f_Wo_movedWithin h0 p1 p2 p3 = some r) : AM l E 1 mi_Wo_movedWithin [.long p1, .int p2, .int p3] h0 (some (.long r)) h0 :=
  am_of2 [(.long p1, true), (.int p2, false), (.int p3, false)] 4 ⟨rfl, rfl, rfl, trivial⟩ rfl rfl (v_Wo_movedWithin (Nat.le_refl _) (Nat.le_refl _) (fun pc L hd => ax_lret rfl hd rfl) hf)
theorem w_Wo_move_L2 {l : Launch} {E : EN} {R : Room} {B : (Nat × Nat) × (Nat × Nat)} {Qf : QF} {hF : AH} (hR1 : 2 ≤ R.frames) (hR2 : 128 ≤ R.locals) (Hr : ∀ (pc : Nat) (L : List (Option Value)), decode mi_Wo_move.2.1 pc = .ok (.return_, 1) → AW l E mi_Wo_move R B Qf pc L [] hF) {y0 : Nat} {y1 : Int32} {y2 : Int32} : ∀ (n : Nat) (z3 : Int32) (h : AH), f_Wo_move_L2 y0 y1 y2 n z3 h = some hF → AW l E mi_Wo_move R B Qf 2 [some (va_rf (some y0)), some (.int y1), some (.int y2), some (.int z3), none] [] h := by
  intro n
  induction n with
  | zero => intro z3 h hf; cases hf
  | succ n ih =>
    intro z3 h hf
    rw [f_Wo_move_L2] at hf
    refine ax_iload_n (i := 3) dWo_move_2 rfl rfl ?_
    refine ax_bipush (64 : Int32) dWo_move_3 k8_64 ?_
    replace hf := ite_c hf
    rcases hf with ⟨hc, hf⟩ | ⟨hc, hf⟩
    · refine ax_icmp_geF 86 dWo_move_5 (by decide) hc ?_
      refine ax_iload_n (i := 1) dWo_move_8 rfl rfl ?_
      refine ax_bipush (6 : Int32) dWo_move_9 k8_6 ?_
      replace hf := ite_c hf
      rcases hf with ⟨hc, hf⟩ | ⟨hc, hf⟩
      · refine ax_icmp_geF 34 dWo_move_11 (by decide) hc ?_
        refine ax_aload_n (i := 0) (some y0) dWo_move_14 rfl rfl ?_
        replace hf := bd1_s hf
        obtain ⟨r13, e_r13, hf⟩ := hf
        refine ax_getR fl_294 rfl dWo_move_15 e_r13 ?_
        refine ax_iload_n (i := 3) dWo_move_18 rfl rfl ?_
        refine ax_aload_n (i := 0) (some y0) dWo_move_19 rfl rfl ?_
        replace hf := bd1_s hf
        obtain ⟨r14, e_r14, hf⟩ := hf
        refine ax_getR fl_294 rfl dWo_move_20 e_r14 ?_
        refine ax_iload_n (i := 3) dWo_move_23 rfl rfl ?_
        replace hf := bd1_s hf
        obtain ⟨a15, e_d, hf⟩ := hf
        subst e_d
        replace hf := bd1_s hf
        obtain ⟨x16, e_x16, hf⟩ := hf
        refine ax_lald dWo_move_24 e_x16 ?_
        refine ax_iload_n (i := 1) dWo_move_25 rfl rfl ?_
        refine ax_iload_n (i := 2) dWo_move_26 rfl rfl ?_
        replace hf := bd1_s hf
        obtain ⟨x17, e_x17, hf⟩ := hf
        refine ax_callS (As := [.long x16, .int y1, .int y2]) (rest := [.int z3, va_rf r13]) (c_Wo_movedWithin e_x17) ml_919 cm_Wo_movedWithin (Nat.le_trans (Nat.le_of_ble_eq_true rfl) hR1) (Nat.le_trans (Nat.le_of_ble_eq_true rfl) hR2) rfl rfl (Nat.le_of_ble_eq_true rfl) dWo_move_27 ?_
        replace hf := bd1_s hf
        obtain ⟨a18, e_d, hf⟩ := hf
        subst e_d
        replace hf := bd1_s hf
        obtain ⟨h19, e_h19, hf⟩ := hf
        refine ax_last dWo_move_30 e_h19 ?_
        refine ax_goto 80 dWo_move_31 (by decide) ?_
        refine ax_iinc (i := 3) (z3 + (1 : Int32)) [some (va_rf (some y0)), some (.int y1), some (.int y2), some (.int (z3 + (1 : Int32))), none] dWo_move_80 rfl (iic k32_1) (Or.inr (c1i rfl)) rfl ?_
        refine ax_goto 2 dWo_move_83 (by decide) ?_
        exact ih (z3 + (1 : Int32)) h19 hf
      · refine ax_icmp_geT 34 dWo_move_11 (by decide) hc ?_
        refine ax_iload_n (i := 3) dWo_move_34 rfl rfl ?_
        refine ax_iload_n (i := 1) dWo_move_35 rfl rfl ?_
        refine ax_bipush (6 : Int32) dWo_move_36 k8_6 ?_
        refine ax_isub dWo_move_38 ?_
        replace hf := bd1_s hf
        obtain ⟨x1, e_x1, hf⟩ := hf
        refine ax_callS (As := [.int z3, .int (y1 - (6 : Int32))]) (rest := []) (c_C_hasBit e_x1) ml_904 cm_C_hasBit (Nat.le_trans (Nat.le_of_ble_eq_true rfl) hR1) (Nat.le_trans (Nat.le_of_ble_eq_true rfl) hR2) rfl rfl (Nat.le_of_ble_eq_true rfl) dWo_move_39 ?_
        refine ax_iload_n (i := 2) dWo_move_42 rfl rfl ?_
        replace hf := ite_c hf
        rcases hf with ⟨hc, hf⟩ | ⟨hc, hf⟩
        · refine ax_icmp_neF 80 dWo_move_43 (by decide) hc ?_
          refine ax_iload_n (i := 3) dWo_move_46 rfl rfl ?_
          refine ax_iconst (1 : Int32) dWo_move_47 k32_1 ?_
          refine ax_iload_n (i := 1) dWo_move_48 rfl rfl ?_
          refine ax_bipush (6 : Int32) dWo_move_49 k8_6 ?_
          refine ax_isub dWo_move_51 ?_
          refine ax_ishl dWo_move_52 ?_
          refine ax_ixor dWo_move_53 ?_
          replace hf := bd1_s hf
          obtain ⟨x2, e_x2, hf⟩ := hf
          refine ax_nmI (Option.some.inj e_x2) ?_
          refine ax_istore (i := 4) [some (va_rf (some y0)), some (.int y1), some (.int y2), some (.int z3), some (.int x2)] dWo_move_54 (Nat.le_of_ble_eq_true rfl) (Or.inr (c1i rfl)) rfl ?_
          refine ax_aload_n (i := 0) (some y0) dWo_move_56 rfl rfl ?_
          replace hf := bd1_s hf
          obtain ⟨r3, e_r3, hf⟩ := hf
          refine ax_getR fl_294 rfl dWo_move_57 e_r3 ?_
          refine ax_iload_n (i := 3) dWo_move_60 rfl rfl ?_
          refine ax_dup2 dWo_move_61 rfl (cat_rf _) ?_
          replace hf := bd1_s hf
          obtain ⟨a4, e_d, hf⟩ := hf
          subst e_d
          replace hf := bd1_s hf
          obtain ⟨x5, e_x5, hf⟩ := hf
          refine ax_lald dWo_move_62 e_x5 ?_
          refine ax_aload_n (i := 0) (some y0) dWo_move_63 rfl rfl ?_
          replace hf := bd1_s hf
          obtain ⟨r6, e_r6, hf⟩ := hf
          refine ax_getR fl_294 rfl dWo_move_64 e_r6 ?_
          refine ax_iload (i := 4) dWo_move_67 rfl ?_
          replace hf := bd1_s hf
          obtain ⟨a7, e_d, hf⟩ := hf
          subst e_d
          replace hf := bd1_s hf
          obtain ⟨x8, e_x8, hf⟩ := hf
          refine ax_lald dWo_move_69 e_x8 ?_
          refine ax_lor dWo_move_70 ?_
          replace hf := bd1_s hf
          obtain ⟨h9, e_h9, hf⟩ := hf
          refine ax_last dWo_move_71 e_h9 ?_
          refine ax_aload_n (i := 0) (some y0) dWo_move_72 rfl rfl ?_
          replace hf := bd1_s hf
          obtain ⟨r10, e_r10, hf⟩ := hf
          refine ax_getR fl_294 rfl dWo_move_73 e_r10 ?_
          refine ax_iload (i := 4) dWo_move_76 rfl ?_
          refine ax_lconst (0 : Int64) dWo_move_78 kl_0 ?_
          replace hf := bd1_s hf
          obtain ⟨a11, e_d, hf⟩ := hf
          subst e_d
          replace hf := bd1_s hf
          obtain ⟨h12, e_h12, hf⟩ := hf
          refine ax_last dWo_move_79 e_h12 ?_
          refine ax_iinc (i := 3) (z3 + (1 : Int32)) [some (va_rf (some y0)), some (.int y1), some (.int y2), some (.int (z3 + (1 : Int32))), some (.int x2)] dWo_move_80 rfl (iic k32_1) (Or.inr (c1i rfl)) rfl ?_
          refine ax_goto 2 dWo_move_83 (by decide) ?_
          refine ax_mask [true, true, true, true, false] rfl [some (va_rf (some y0)), some (.int y1), some (.int y2), some (.int (z3 + (1 : Int32))), none] rfl ?_
          exact ih (z3 + (1 : Int32)) h12 hf
        · refine ax_icmp_neT 80 dWo_move_43 (by decide) hc ?_
          refine ax_iinc (i := 3) (z3 + (1 : Int32)) [some (va_rf (some y0)), some (.int y1), some (.int y2), some (.int (z3 + (1 : Int32))), none] dWo_move_80 rfl (iic k32_1) (Or.inr (c1i rfl)) rfl ?_
          refine ax_goto 2 dWo_move_83 (by decide) ?_
          exact ih (z3 + (1 : Int32)) h hf
    · refine ax_icmp_geT 86 dWo_move_5 (by decide) hc ?_
      cases hf
      exact Hr _ _ dWo_move_86
theorem v_Wo_move {l : Launch} {E : EN} {R : Room} {B : (Nat × Nat) × (Nat × Nat)} {Qf : QF} {h0 : AH} {o : Nat} {p1 : Int32} {p2 : Int32} {hF : AH} (hR1 : 2 ≤ R.frames) (hR2 : 128 ≤ R.locals) (Hr : ∀ (pc : Nat) (L : List (Option Value)), decode mi_Wo_move.2.1 pc = .ok (.return_, 1) → AW l E mi_Wo_move R B Qf pc L [] hF) (hf : f_Wo_move h0 o p1 p2 = some hF) : AW l E mi_Wo_move R B Qf 0 [some (va_rf (some o)), some (.int p1), some (.int p2), none, none] [] h0 := by
  unfold f_Wo_move at hf
  refine ax_iconst (0 : Int32) dWo_move_0 k32_0 ?_
  refine ax_istore_n (i := 3) [some (va_rf (some o)), some (.int p1), some (.int p2), some (.int (0 : Int32)), none] dWo_move_1 rfl (Nat.le_of_ble_eq_true rfl) (Or.inr (c1i rfl)) rfl ?_
  refine w_Wo_move_L2 hR1 hR2 Hr FU (0 : Int32) h0 hf
theorem c_Wo_move {l : Launch} {E : EN} {h0 : AH} {o : Nat} {p1 : Int32} {p2 : Int32} {hF : AH} (hf : f_Wo_move h0 o p1 p2 = some hF) : AM l E 2 mi_Wo_move [va_rf (some o), .int p1, .int p2] h0 none hF :=
  am_of2 [(va_rf (some o), false), (.int p1, false), (.int p2, false)] 2 ⟨cat_rf _, rfl, rfl, trivial⟩ rfl rfl (v_Wo_move (Nat.le_refl _) (Nat.le_refl _) (fun pc L hd => ax_vret rfl hd rfl) hf)
end
