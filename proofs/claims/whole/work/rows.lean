section
-- ===== PART A: goes FIRST, ahead of the names: the tables' words, and 'selects' of the private methods out of them =====
/-- a private method of a class that the tables say can be made, by its rows of tables_1 -/
def lw_okq (q : MethodName × Nat) : Prop := (q.1.cls ≠ "java/lang/invoke/MethodHandle" ∧ q.1.cls ≠ "java/lang/invoke/VarHandle") ∧ Cond.instantiable q.1.cls q.2 ∈ tables_1 ∧ Cond.privateMethod q.1 ∈ tables_1 ∧ Cond.instanceMethod q.1 ∈ tables_1
theorem lw_p0 : lw_okq (⟨"FontList$Fonts", "putInOrder", "(I)V"⟩, 8) := ⟨⟨by decide +kernel, by decide +kernel⟩, List.mem_of_getElem? (i := 93) (by decide +kernel), List.mem_of_getElem? (i := 444) (by decide +kernel), List.mem_of_getElem? (i := 445) (by decide +kernel)⟩
theorem lw_p1 : lw_okq (⟨"FontList$Reader", "clause", "()Z"⟩, 5) := ⟨⟨by decide +kernel, by decide +kernel⟩, List.mem_of_getElem? (i := 189) (by decide +kernel), List.mem_of_getElem? (i := 491) (by decide +kernel), List.mem_of_getElem? (i := 492) (by decide +kernel)⟩
theorem lw_p2 : lw_okq (⟨"FontList$Reader", "peek", "()C"⟩, 5) := ⟨⟨by decide +kernel, by decide +kernel⟩, List.mem_of_getElem? (i := 189) (by decide +kernel), List.mem_of_getElem? (i := 496) (by decide +kernel), List.mem_of_getElem? (i := 497) (by decide +kernel)⟩
theorem lw_p3 : lw_okq (⟨"FontList$Reader", "refuse", "(I)Z"⟩, 5) := ⟨⟨by decide +kernel, by decide +kernel⟩, List.mem_of_getElem? (i := 189) (by decide +kernel), List.mem_of_getElem? (i := 575) (by decide +kernel), List.mem_of_getElem? (i := 576) (by decide +kernel)⟩
theorem lw_p4 : lw_okq (⟨"FontList$Reader", "take", "(C)Z"⟩, 5) := ⟨⟨by decide +kernel, by decide +kernel⟩, List.mem_of_getElem? (i := 189) (by decide +kernel), List.mem_of_getElem? (i := 579) (by decide +kernel), List.mem_of_getElem? (i := 580) (by decide +kernel)⟩
theorem lw_p5 : lw_okq (⟨"FontList$Reader", "chain", "(II)Z"⟩, 5) := ⟨⟨by decide +kernel, by decide +kernel⟩, List.mem_of_getElem? (i := 189) (by decide +kernel), List.mem_of_getElem? (i := 583) (by decide +kernel), List.mem_of_getElem? (i := 584) (by decide +kernel)⟩
theorem lw_p6 : lw_okq (⟨"FontList$Reader", "operand", "(II)Z"⟩, 5) := ⟨⟨by decide +kernel, by decide +kernel⟩, List.mem_of_getElem? (i := 189) (by decide +kernel), List.mem_of_getElem? (i := 587) (by decide +kernel), List.mem_of_getElem? (i := 588) (by decide +kernel)⟩
theorem lw_p7 : lw_okq (⟨"FontList$Reader", "piece", "(I)Z"⟩, 5) := ⟨⟨by decide +kernel, by decide +kernel⟩, List.mem_of_getElem? (i := 189) (by decide +kernel), List.mem_of_getElem? (i := 591) (by decide +kernel), List.mem_of_getElem? (i := 592) (by decide +kernel)⟩
theorem lw_p8 : lw_okq (⟨"FontList$Reader", "comparison", "(I)Z"⟩, 5) := ⟨⟨by decide +kernel, by decide +kernel⟩, List.mem_of_getElem? (i := 189) (by decide +kernel), List.mem_of_getElem? (i := 595) (by decide +kernel), List.mem_of_getElem? (i := 596) (by decide +kernel)⟩
theorem lw_p9 : lw_okq (⟨"FontList$Reader", "factor", "(I)Z"⟩, 5) := ⟨⟨by decide +kernel, by decide +kernel⟩, List.mem_of_getElem? (i := 189) (by decide +kernel), List.mem_of_getElem? (i := 603) (by decide +kernel), List.mem_of_getElem? (i := 604) (by decide +kernel)⟩
theorem lw_p10 : lw_okq (⟨"FontList$Reader", "number", "()Z"⟩, 5) := ⟨⟨by decide +kernel, by decide +kernel⟩, List.mem_of_getElem? (i := 189) (by decide +kernel), List.mem_of_getElem? (i := 610) (by decide +kernel), List.mem_of_getElem? (i := 611) (by decide +kernel)⟩
theorem lw_p11 : lw_okq (⟨"FontList$Family", "fitsElders", "(I)Z"⟩, 9) := ⟨⟨by decide +kernel, by decide +kernel⟩, List.mem_of_getElem? (i := 264) (by decide +kernel), List.mem_of_getElem? (i := 672) (by decide +kernel), List.mem_of_getElem? (i := 673) (by decide +kernel)⟩
theorem lw_p12 : lw_okq (⟨"FontList$Family", "ask", "(LFontList$Usage;)V"⟩, 9) := ⟨⟨by decide +kernel, by decide +kernel⟩, List.mem_of_getElem? (i := 264) (by decide +kernel), List.mem_of_getElem? (i := 690) (by decide +kernel), List.mem_of_getElem? (i := 691) (by decide +kernel)⟩
theorem lw_p13 : lw_okq (⟨"FontList$Family", "observe", "(I)I"⟩, 9) := ⟨⟨by decide +kernel, by decide +kernel⟩, List.mem_of_getElem? (i := 264) (by decide +kernel), List.mem_of_getElem? (i := 694) (by decide +kernel), List.mem_of_getElem? (i := 695) (by decide +kernel)⟩
theorem lw_p14 : lw_okq (⟨"FontList$Family", "sexAt", "(I)I"⟩, 9) := ⟨⟨by decide +kernel, by decide +kernel⟩, List.mem_of_getElem? (i := 264) (by decide +kernel), List.mem_of_getElem? (i := 698) (by decide +kernel), List.mem_of_getElem? (i := 699) (by decide +kernel)⟩
theorem lw_p15 : lw_okq (⟨"FontList$Family", "isTwin", "(I)Z"⟩, 9) := ⟨⟨by decide +kernel, by decide +kernel⟩, List.mem_of_getElem? (i := 264) (by decide +kernel), List.mem_of_getElem? (i := 702) (by decide +kernel), List.mem_of_getElem? (i := 703) (by decide +kernel)⟩
def lw_privs_1 : List (MethodName × Nat) := [(⟨"FontList$Fonts", "putInOrder", "(I)V"⟩, 8), (⟨"FontList$Reader", "clause", "()Z"⟩, 5), (⟨"FontList$Reader", "peek", "()C"⟩, 5), (⟨"FontList$Reader", "refuse", "(I)Z"⟩, 5), (⟨"FontList$Reader", "take", "(C)Z"⟩, 5), (⟨"FontList$Reader", "chain", "(II)Z"⟩, 5), (⟨"FontList$Reader", "operand", "(II)Z"⟩, 5), (⟨"FontList$Reader", "piece", "(I)Z"⟩, 5), (⟨"FontList$Reader", "comparison", "(I)Z"⟩, 5), (⟨"FontList$Reader", "factor", "(I)Z"⟩, 5), (⟨"FontList$Reader", "number", "()Z"⟩, 5), (⟨"FontList$Family", "fitsElders", "(I)Z"⟩, 9), (⟨"FontList$Family", "ask", "(LFontList$Usage;)V"⟩, 9), (⟨"FontList$Family", "observe", "(I)I"⟩, 9), (⟨"FontList$Family", "sexAt", "(I)I"⟩, 9), (⟨"FontList$Family", "isTwin", "(I)Z"⟩, 9)]
theorem lw_r1 : ∀ q ∈ lw_privs_1, lw_okq q := List.forall_mem_cons.mpr ⟨lw_p0, List.forall_mem_cons.mpr ⟨lw_p1, List.forall_mem_cons.mpr ⟨lw_p2, List.forall_mem_cons.mpr ⟨lw_p3, List.forall_mem_cons.mpr ⟨lw_p4, List.forall_mem_cons.mpr ⟨lw_p5, List.forall_mem_cons.mpr ⟨lw_p6, List.forall_mem_cons.mpr ⟨lw_p7, List.forall_mem_cons.mpr ⟨lw_p8, List.forall_mem_cons.mpr ⟨lw_p9, List.forall_mem_cons.mpr ⟨lw_p10, List.forall_mem_cons.mpr ⟨lw_p11, List.forall_mem_cons.mpr ⟨lw_p12, List.forall_mem_cons.mpr ⟨lw_p13, List.forall_mem_cons.mpr ⟨lw_p14, List.forall_mem_cons.mpr ⟨lw_p15, fun _ h => absurd h List.not_mem_nil⟩⟩⟩⟩⟩⟩⟩⟩⟩⟩⟩⟩⟩⟩⟩⟩
theorem lw_p16 : lw_okq (⟨"FontList$Custom", "holds", "(II[I)Z"⟩, 7) := ⟨⟨by decide +kernel, by decide +kernel⟩, List.mem_of_getElem? (i := 195) (by decide +kernel), List.mem_of_getElem? (i := 719) (by decide +kernel), List.mem_of_getElem? (i := 720) (by decide +kernel)⟩
theorem lw_p17 : lw_okq (⟨"FontList$Family", "gainOfAll", "(II)I"⟩, 9) := ⟨⟨by decide +kernel, by decide +kernel⟩, List.mem_of_getElem? (i := 264) (by decide +kernel), List.mem_of_getElem? (i := 738) (by decide +kernel), List.mem_of_getElem? (i := 739) (by decide +kernel)⟩
theorem lw_p18 : lw_okq (⟨"FontList$Family", "gain", "(II)I"⟩, 9) := ⟨⟨by decide +kernel, by decide +kernel⟩, List.mem_of_getElem? (i := 264) (by decide +kernel), List.mem_of_getElem? (i := 742) (by decide +kernel), List.mem_of_getElem? (i := 743) (by decide +kernel)⟩
theorem lw_p19 : lw_okq (⟨"FontList", "placeAsked", "(III)I"⟩, 9) := ⟨⟨by decide +kernel, by decide +kernel⟩, List.mem_of_getElem? (i := 22) (by decide +kernel), List.mem_of_getElem? (i := 763) (by decide +kernel), List.mem_of_getElem? (i := 764) (by decide +kernel)⟩
theorem lw_p20 : lw_okq (⟨"FontList$Ways", "whole", "()I"⟩, 11) := ⟨⟨by decide +kernel, by decide +kernel⟩, List.mem_of_getElem? (i := 326) (by decide +kernel), List.mem_of_getElem? (i := 807) (by decide +kernel), List.mem_of_getElem? (i := 808) (by decide +kernel)⟩
theorem lw_p21 : lw_okq (⟨"FontList$Ways", "startEmpty", "(I)V"⟩, 11) := ⟨⟨by decide +kernel, by decide +kernel⟩, List.mem_of_getElem? (i := 326) (by decide +kernel), List.mem_of_getElem? (i := 811) (by decide +kernel), List.mem_of_getElem? (i := 812) (by decide +kernel)⟩
theorem lw_p22 : lw_okq (⟨"FontList$Ways", "widen", "(III)V"⟩, 11) := ⟨⟨by decide +kernel, by decide +kernel⟩, List.mem_of_getElem? (i := 326) (by decide +kernel), List.mem_of_getElem? (i := 822) (by decide +kernel), List.mem_of_getElem? (i := 823) (by decide +kernel)⟩
theorem lw_p23 : lw_okq (⟨"FontList$Family", "foresee", "(LFontList$Usage;)V"⟩, 9) := ⟨⟨by decide +kernel, by decide +kernel⟩, List.mem_of_getElem? (i := 264) (by decide +kernel), List.mem_of_getElem? (i := 891) (by decide +kernel), List.mem_of_getElem? (i := 892) (by decide +kernel)⟩
theorem lw_p24 : lw_okq (⟨"FontList$Family", "mayHold", "(II)Z"⟩, 9) := ⟨⟨by decide +kernel, by decide +kernel⟩, List.mem_of_getElem? (i := 264) (by decide +kernel), List.mem_of_getElem? (i := 895) (by decide +kernel), List.mem_of_getElem? (i := 896) (by decide +kernel)⟩
theorem lw_p25 : lw_okq (⟨"FontList$Family", "fewest", "(I)I"⟩, 9) := ⟨⟨by decide +kernel, by decide +kernel⟩, List.mem_of_getElem? (i := 264) (by decide +kernel), List.mem_of_getElem? (i := 900) (by decide +kernel), List.mem_of_getElem? (i := 901) (by decide +kernel)⟩
theorem lw_p26 : lw_okq (⟨"FontList$Family", "suits", "(II)Z"⟩, 9) := ⟨⟨by decide +kernel, by decide +kernel⟩, List.mem_of_getElem? (i := 264) (by decide +kernel), List.mem_of_getElem? (i := 904) (by decide +kernel), List.mem_of_getElem? (i := 905) (by decide +kernel)⟩
theorem lw_p27 : lw_okq (⟨"FontList$Row", "firstBroken", "()I"⟩, 3) := ⟨⟨by decide +kernel, by decide +kernel⟩, List.mem_of_getElem? (i := 310) (by decide +kernel), List.mem_of_getElem? (i := 921) (by decide +kernel), List.mem_of_getElem? (i := 922) (by decide +kernel)⟩
theorem lw_p28 : lw_okq (⟨"FontList", "fewerWithout", "(II)I"⟩, 9) := ⟨⟨by decide +kernel, by decide +kernel⟩, List.mem_of_getElem? (i := 22) (by decide +kernel), List.mem_of_getElem? (i := 959) (by decide +kernel), List.mem_of_getElem? (i := 960) (by decide +kernel)⟩
theorem lw_p29 : lw_okq (⟨"FontListModel", "isOf", "(II)Z"⟩, 69) := ⟨⟨by decide +kernel, by decide +kernel⟩, List.mem_of_getElem? (i := 976) (by decide +kernel), List.mem_of_getElem? (i := 1203) (by decide +kernel), List.mem_of_getElem? (i := 1204) (by decide +kernel)⟩
theorem lw_p30 : lw_okq (⟨"FontListModel", "isName", "(I)Z"⟩, 69) := ⟨⟨by decide +kernel, by decide +kernel⟩, List.mem_of_getElem? (i := 976) (by decide +kernel), List.mem_of_getElem? (i := 1207) (by decide +kernel), List.mem_of_getElem? (i := 1208) (by decide +kernel)⟩
theorem lw_p31 : lw_okq (⟨"FontListModel", "isCouple", "(I)Z"⟩, 69) := ⟨⟨by decide +kernel, by decide +kernel⟩, List.mem_of_getElem? (i := 976) (by decide +kernel), List.mem_of_getElem? (i := 1219) (by decide +kernel), List.mem_of_getElem? (i := 1220) (by decide +kernel)⟩
def lw_privs_2 : List (MethodName × Nat) := [(⟨"FontList$Custom", "holds", "(II[I)Z"⟩, 7), (⟨"FontList$Family", "gainOfAll", "(II)I"⟩, 9), (⟨"FontList$Family", "gain", "(II)I"⟩, 9), (⟨"FontList", "placeAsked", "(III)I"⟩, 9), (⟨"FontList$Ways", "whole", "()I"⟩, 11), (⟨"FontList$Ways", "startEmpty", "(I)V"⟩, 11), (⟨"FontList$Ways", "widen", "(III)V"⟩, 11), (⟨"FontList$Family", "foresee", "(LFontList$Usage;)V"⟩, 9), (⟨"FontList$Family", "mayHold", "(II)Z"⟩, 9), (⟨"FontList$Family", "fewest", "(I)I"⟩, 9), (⟨"FontList$Family", "suits", "(II)Z"⟩, 9), (⟨"FontList$Row", "firstBroken", "()I"⟩, 3), (⟨"FontList", "fewerWithout", "(II)I"⟩, 9), (⟨"FontListModel", "isOf", "(II)Z"⟩, 69), (⟨"FontListModel", "isName", "(I)Z"⟩, 69), (⟨"FontListModel", "isCouple", "(I)Z"⟩, 69)]
theorem lw_r2 : ∀ q ∈ lw_privs_2, lw_okq q := List.forall_mem_cons.mpr ⟨lw_p16, List.forall_mem_cons.mpr ⟨lw_p17, List.forall_mem_cons.mpr ⟨lw_p18, List.forall_mem_cons.mpr ⟨lw_p19, List.forall_mem_cons.mpr ⟨lw_p20, List.forall_mem_cons.mpr ⟨lw_p21, List.forall_mem_cons.mpr ⟨lw_p22, List.forall_mem_cons.mpr ⟨lw_p23, List.forall_mem_cons.mpr ⟨lw_p24, List.forall_mem_cons.mpr ⟨lw_p25, List.forall_mem_cons.mpr ⟨lw_p26, List.forall_mem_cons.mpr ⟨lw_p27, List.forall_mem_cons.mpr ⟨lw_p28, List.forall_mem_cons.mpr ⟨lw_p29, List.forall_mem_cons.mpr ⟨lw_p30, List.forall_mem_cons.mpr ⟨lw_p31, fun _ h => absurd h List.not_mem_nil⟩⟩⟩⟩⟩⟩⟩⟩⟩⟩⟩⟩⟩⟩⟩⟩
theorem lw_p32 : lw_okq (⟨"FontListModel", "isFont", "(I)Z"⟩, 69) := ⟨⟨by decide +kernel, by decide +kernel⟩, List.mem_of_getElem? (i := 976) (by decide +kernel), List.mem_of_getElem? (i := 1232) (by decide +kernel), List.mem_of_getElem? (i := 1233) (by decide +kernel)⟩
theorem lw_p33 : lw_okq (⟨"FontListModel", "push", "(I)V"⟩, 69) := ⟨⟨by decide +kernel, by decide +kernel⟩, List.mem_of_getElem? (i := 976) (by decide +kernel), List.mem_of_getElem? (i := 1245) (by decide +kernel), List.mem_of_getElem? (i := 1246) (by decide +kernel)⟩
theorem lw_p34 : lw_okq (⟨"FontListModel", "isGood", "()Z"⟩, 69) := ⟨⟨by decide +kernel, by decide +kernel⟩, List.mem_of_getElem? (i := 976) (by decide +kernel), List.mem_of_getElem? (i := 1254) (by decide +kernel), List.mem_of_getElem? (i := 1255) (by decide +kernel)⟩
theorem lw_p35 : lw_okq (⟨"FontListModel", "clause", "()V"⟩, 69) := ⟨⟨by decide +kernel, by decide +kernel⟩, List.mem_of_getElem? (i := 976) (by decide +kernel), List.mem_of_getElem? (i := 1258) (by decide +kernel), List.mem_of_getElem? (i := 1259) (by decide +kernel)⟩
theorem lw_p36 : lw_okq (⟨"FontListModel", "here", "()I"⟩, 69) := ⟨⟨by decide +kernel, by decide +kernel⟩, List.mem_of_getElem? (i := 976) (by decide +kernel), List.mem_of_getElem? (i := 1262) (by decide +kernel), List.mem_of_getElem? (i := 1263) (by decide +kernel)⟩
theorem lw_p37 : lw_okq (⟨"FontListModel", "wrongs", "(II)V"⟩, 69) := ⟨⟨by decide +kernel, by decide +kernel⟩, List.mem_of_getElem? (i := 976) (by decide +kernel), List.mem_of_getElem? (i := 1269) (by decide +kernel), List.mem_of_getElem? (i := 1270) (by decide +kernel)⟩
theorem lw_p38 : lw_okq (⟨"FontListModel", "condition", "()V"⟩, 69) := ⟨⟨by decide +kernel, by decide +kernel⟩, List.mem_of_getElem? (i := 976) (by decide +kernel), List.mem_of_getElem? (i := 1273) (by decide +kernel), List.mem_of_getElem? (i := 1274) (by decide +kernel)⟩
theorem lw_p39 : lw_okq (⟨"FontListModel", "opens", "()V"⟩, 69) := ⟨⟨by decide +kernel, by decide +kernel⟩, List.mem_of_getElem? (i := 976) (by decide +kernel), List.mem_of_getElem? (i := 1277) (by decide +kernel), List.mem_of_getElem? (i := 1278) (by decide +kernel)⟩
theorem lw_p40 : lw_okq (⟨"FontListModel", "puts", "(I)V"⟩, 69) := ⟨⟨by decide +kernel, by decide +kernel⟩, List.mem_of_getElem? (i := 976) (by decide +kernel), List.mem_of_getElem? (i := 1281) (by decide +kernel), List.mem_of_getElem? (i := 1282) (by decide +kernel)⟩
theorem lw_p41 : lw_okq (⟨"FontListModel", "pieceOfC", "()V"⟩, 69) := ⟨⟨by decide +kernel, by decide +kernel⟩, List.mem_of_getElem? (i := 976) (by decide +kernel), List.mem_of_getElem? (i := 1285) (by decide +kernel), List.mem_of_getElem? (i := 1286) (by decide +kernel)⟩
theorem lw_p42 : lw_okq (⟨"FontListModel", "factor", "()V"⟩, 69) := ⟨⟨by decide +kernel, by decide +kernel⟩, List.mem_of_getElem? (i := 976) (by decide +kernel), List.mem_of_getElem? (i := 1289) (by decide +kernel), List.mem_of_getElem? (i := 1290) (by decide +kernel)⟩
theorem lw_p43 : lw_okq (⟨"FontListModel", "seesDigit", "()Z"⟩, 69) := ⟨⟨by decide +kernel, by decide +kernel⟩, List.mem_of_getElem? (i := 976) (by decide +kernel), List.mem_of_getElem? (i := 1293) (by decide +kernel), List.mem_of_getElem? (i := 1294) (by decide +kernel)⟩
theorem lw_p44 : lw_okq (⟨"FontListModel", "reads", "()I"⟩, 69) := ⟨⟨by decide +kernel, by decide +kernel⟩, List.mem_of_getElem? (i := 976) (by decide +kernel), List.mem_of_getElem? (i := 1299) (by decide +kernel), List.mem_of_getElem? (i := 1300) (by decide +kernel)⟩
theorem lw_p45 : lw_okq (⟨"FontListModel", "emit", "(II)V"⟩, 69) := ⟨⟨by decide +kernel, by decide +kernel⟩, List.mem_of_getElem? (i := 976) (by decide +kernel), List.mem_of_getElem? (i := 1303) (by decide +kernel), List.mem_of_getElem? (i := 1304) (by decide +kernel)⟩
theorem lw_p46 : lw_okq (⟨"FontListModel", "goesOn", "()Z"⟩, 69) := ⟨⟨by decide +kernel, by decide +kernel⟩, List.mem_of_getElem? (i := 976) (by decide +kernel), List.mem_of_getElem? (i := 1310) (by decide +kernel), List.mem_of_getElem? (i := 1311) (by decide +kernel)⟩
theorem lw_p47 : lw_okq (⟨"FontListModel", "sums", "(Z)V"⟩, 69) := ⟨⟨by decide +kernel, by decide +kernel⟩, List.mem_of_getElem? (i := 976) (by decide +kernel), List.mem_of_getElem? (i := 1320) (by decide +kernel), List.mem_of_getElem? (i := 1321) (by decide +kernel)⟩
def lw_privs_3 : List (MethodName × Nat) := [(⟨"FontListModel", "isFont", "(I)Z"⟩, 69), (⟨"FontListModel", "push", "(I)V"⟩, 69), (⟨"FontListModel", "isGood", "()Z"⟩, 69), (⟨"FontListModel", "clause", "()V"⟩, 69), (⟨"FontListModel", "here", "()I"⟩, 69), (⟨"FontListModel", "wrongs", "(II)V"⟩, 69), (⟨"FontListModel", "condition", "()V"⟩, 69), (⟨"FontListModel", "opens", "()V"⟩, 69), (⟨"FontListModel", "puts", "(I)V"⟩, 69), (⟨"FontListModel", "pieceOfC", "()V"⟩, 69), (⟨"FontListModel", "factor", "()V"⟩, 69), (⟨"FontListModel", "seesDigit", "()Z"⟩, 69), (⟨"FontListModel", "reads", "()I"⟩, 69), (⟨"FontListModel", "emit", "(II)V"⟩, 69), (⟨"FontListModel", "goesOn", "()Z"⟩, 69), (⟨"FontListModel", "sums", "(Z)V"⟩, 69)]
theorem lw_r3 : ∀ q ∈ lw_privs_3, lw_okq q := List.forall_mem_cons.mpr ⟨lw_p32, List.forall_mem_cons.mpr ⟨lw_p33, List.forall_mem_cons.mpr ⟨lw_p34, List.forall_mem_cons.mpr ⟨lw_p35, List.forall_mem_cons.mpr ⟨lw_p36, List.forall_mem_cons.mpr ⟨lw_p37, List.forall_mem_cons.mpr ⟨lw_p38, List.forall_mem_cons.mpr ⟨lw_p39, List.forall_mem_cons.mpr ⟨lw_p40, List.forall_mem_cons.mpr ⟨lw_p41, List.forall_mem_cons.mpr ⟨lw_p42, List.forall_mem_cons.mpr ⟨lw_p43, List.forall_mem_cons.mpr ⟨lw_p44, List.forall_mem_cons.mpr ⟨lw_p45, List.forall_mem_cons.mpr ⟨lw_p46, List.forall_mem_cons.mpr ⟨lw_p47, fun _ h => absurd h List.not_mem_nil⟩⟩⟩⟩⟩⟩⟩⟩⟩⟩⟩⟩⟩⟩⟩⟩
theorem lw_p48 : lw_okq (⟨"FontListModel", "top", "()I"⟩, 69) := ⟨⟨by decide +kernel, by decide +kernel⟩, List.mem_of_getElem? (i := 976) (by decide +kernel), List.mem_of_getElem? (i := 1324) (by decide +kernel), List.mem_of_getElem? (i := 1325) (by decide +kernel)⟩
theorem lw_p49 : lw_okq (⟨"FontListModel", "ends", "()V"⟩, 69) := ⟨⟨by decide +kernel, by decide +kernel⟩, List.mem_of_getElem? (i := 976) (by decide +kernel), List.mem_of_getElem? (i := 1331) (by decide +kernel), List.mem_of_getElem? (i := 1332) (by decide +kernel)⟩
theorem lw_p50 : lw_okq (⟨"FontListModel", "goesBehind", "()Z"⟩, 69) := ⟨⟨by decide +kernel, by decide +kernel⟩, List.mem_of_getElem? (i := 976) (by decide +kernel), List.mem_of_getElem? (i := 1335) (by decide +kernel), List.mem_of_getElem? (i := 1336) (by decide +kernel)⟩
theorem lw_p51 : lw_okq (⟨"FontListModel", "joins", "(Z)V"⟩, 69) := ⟨⟨by decide +kernel, by decide +kernel⟩, List.mem_of_getElem? (i := 976) (by decide +kernel), List.mem_of_getElem? (i := 1339) (by decide +kernel), List.mem_of_getElem? (i := 1340) (by decide +kernel)⟩
theorem lw_p52 : lw_okq (⟨"FontListModel", "canTie", "(II)Z"⟩, 69) := ⟨⟨by decide +kernel, by decide +kernel⟩, List.mem_of_getElem? (i := 976) (by decide +kernel), List.mem_of_getElem? (i := 1352) (by decide +kernel), List.mem_of_getElem? (i := 1353) (by decide +kernel)⟩
theorem lw_p53 : lw_okq (⟨"FontListModel", "isSet", "(I)Z"⟩, 69) := ⟨⟨by decide +kernel, by decide +kernel⟩, List.mem_of_getElem? (i := 976) (by decide +kernel), List.mem_of_getElem? (i := 1360) (by decide +kernel), List.mem_of_getElem? (i := 1361) (by decide +kernel)⟩
theorem lw_p54 : lw_okq (⟨"FontListModel", "canFamily", "(II)Z"⟩, 69) := ⟨⟨by decide +kernel, by decide +kernel⟩, List.mem_of_getElem? (i := 976) (by decide +kernel), List.mem_of_getElem? (i := 1364) (by decide +kernel), List.mem_of_getElem? (i := 1365) (by decide +kernel)⟩
theorem lw_p55 : lw_okq (⟨"FontListModel", "takes", "(II)V"⟩, 69) := ⟨⟨by decide +kernel, by decide +kernel⟩, List.mem_of_getElem? (i := 976) (by decide +kernel), List.mem_of_getElem? (i := 1368) (by decide +kernel), List.mem_of_getElem? (i := 1369) (by decide +kernel)⟩
theorem lw_p56 : lw_okq (⟨"FontListModel", "isElder", "(II)Z"⟩, 69) := ⟨⟨by decide +kernel, by decide +kernel⟩, List.mem_of_getElem? (i := 976) (by decide +kernel), List.mem_of_getElem? (i := 1375) (by decide +kernel), List.mem_of_getElem? (i := 1376) (by decide +kernel)⟩
theorem lw_p57 : lw_okq (⟨"FontListModel", "canBe", "()Z"⟩, 69) := ⟨⟨by decide +kernel, by decide +kernel⟩, List.mem_of_getElem? (i := 976) (by decide +kernel), List.mem_of_getElem? (i := 1379) (by decide +kernel), List.mem_of_getElem? (i := 1380) (by decide +kernel)⟩
theorem lw_p58 : lw_okq (⟨"FontListModel", "isGone", "(II)Z"⟩, 69) := ⟨⟨by decide +kernel, by decide +kernel⟩, List.mem_of_getElem? (i := 976) (by decide +kernel), List.mem_of_getElem? (i := 1383) (by decide +kernel), List.mem_of_getElem? (i := 1384) (by decide +kernel)⟩
theorem lw_p59 : lw_okq (⟨"FontListModel", "pointsOf", "(II)I"⟩, 69) := ⟨⟨by decide +kernel, by decide +kernel⟩, List.mem_of_getElem? (i := 976) (by decide +kernel), List.mem_of_getElem? (i := 1391) (by decide +kernel), List.mem_of_getElem? (i := 1392) (by decide +kernel)⟩
theorem lw_p60 : lw_okq (⟨"FontListModel", "asks", "()V"⟩, 69) := ⟨⟨by decide +kernel, by decide +kernel⟩, List.mem_of_getElem? (i := 976) (by decide +kernel), List.mem_of_getElem? (i := 1395) (by decide +kernel), List.mem_of_getElem? (i := 1396) (by decide +kernel)⟩
theorem lw_p61 : lw_okq (⟨"FontListModel", "letterOf", "(II)I"⟩, 69) := ⟨⟨by decide +kernel, by decide +kernel⟩, List.mem_of_getElem? (i := 976) (by decide +kernel), List.mem_of_getElem? (i := 1399) (by decide +kernel), List.mem_of_getElem? (i := 1400) (by decide +kernel)⟩
theorem lw_p62 : lw_okq (⟨"FontListModel", "isThere", "(II)Z"⟩, 69) := ⟨⟨by decide +kernel, by decide +kernel⟩, List.mem_of_getElem? (i := 976) (by decide +kernel), List.mem_of_getElem? (i := 1403) (by decide +kernel), List.mem_of_getElem? (i := 1404) (by decide +kernel)⟩
theorem lw_p63 : lw_okq (⟨"FontListModel", "deadOf", "(I)I"⟩, 69) := ⟨⟨by decide +kernel, by decide +kernel⟩, List.mem_of_getElem? (i := 976) (by decide +kernel), List.mem_of_getElem? (i := 1407) (by decide +kernel), List.mem_of_getElem? (i := 1408) (by decide +kernel)⟩
def lw_privs_4 : List (MethodName × Nat) := [(⟨"FontListModel", "top", "()I"⟩, 69), (⟨"FontListModel", "ends", "()V"⟩, 69), (⟨"FontListModel", "goesBehind", "()Z"⟩, 69), (⟨"FontListModel", "joins", "(Z)V"⟩, 69), (⟨"FontListModel", "canTie", "(II)Z"⟩, 69), (⟨"FontListModel", "isSet", "(I)Z"⟩, 69), (⟨"FontListModel", "canFamily", "(II)Z"⟩, 69), (⟨"FontListModel", "takes", "(II)V"⟩, 69), (⟨"FontListModel", "isElder", "(II)Z"⟩, 69), (⟨"FontListModel", "canBe", "()Z"⟩, 69), (⟨"FontListModel", "isGone", "(II)Z"⟩, 69), (⟨"FontListModel", "pointsOf", "(II)I"⟩, 69), (⟨"FontListModel", "asks", "()V"⟩, 69), (⟨"FontListModel", "letterOf", "(II)I"⟩, 69), (⟨"FontListModel", "isThere", "(II)Z"⟩, 69), (⟨"FontListModel", "deadOf", "(I)I"⟩, 69)]
theorem lw_r4 : ∀ q ∈ lw_privs_4, lw_okq q := List.forall_mem_cons.mpr ⟨lw_p48, List.forall_mem_cons.mpr ⟨lw_p49, List.forall_mem_cons.mpr ⟨lw_p50, List.forall_mem_cons.mpr ⟨lw_p51, List.forall_mem_cons.mpr ⟨lw_p52, List.forall_mem_cons.mpr ⟨lw_p53, List.forall_mem_cons.mpr ⟨lw_p54, List.forall_mem_cons.mpr ⟨lw_p55, List.forall_mem_cons.mpr ⟨lw_p56, List.forall_mem_cons.mpr ⟨lw_p57, List.forall_mem_cons.mpr ⟨lw_p58, List.forall_mem_cons.mpr ⟨lw_p59, List.forall_mem_cons.mpr ⟨lw_p60, List.forall_mem_cons.mpr ⟨lw_p61, List.forall_mem_cons.mpr ⟨lw_p62, List.forall_mem_cons.mpr ⟨lw_p63, fun _ h => absurd h List.not_mem_nil⟩⟩⟩⟩⟩⟩⟩⟩⟩⟩⟩⟩⟩⟩⟩⟩
theorem lw_p64 : lw_okq (⟨"FontListModel", "holds", "(III)Z"⟩, 69) := ⟨⟨by decide +kernel, by decide +kernel⟩, List.mem_of_getElem? (i := 976) (by decide +kernel), List.mem_of_getElem? (i := 1411) (by decide +kernel), List.mem_of_getElem? (i := 1412) (by decide +kernel)⟩
theorem lw_p65 : lw_okq (⟨"FontListModel", "does", "(II)V"⟩, 69) := ⟨⟨by decide +kernel, by decide +kernel⟩, List.mem_of_getElem? (i := 976) (by decide +kernel), List.mem_of_getElem? (i := 1415) (by decide +kernel), List.mem_of_getElem? (i := 1416) (by decide +kernel)⟩
theorem lw_p66 : lw_okq (⟨"FontListModel", "value", "(III)I"⟩, 69) := ⟨⟨by decide +kernel, by decide +kernel⟩, List.mem_of_getElem? (i := 976) (by decide +kernel), List.mem_of_getElem? (i := 1422) (by decide +kernel), List.mem_of_getElem? (i := 1423) (by decide +kernel)⟩
theorem lw_p67 : lw_okq (⟨"FontListModel", "told", "(II)I"⟩, 69) := ⟨⟨by decide +kernel, by decide +kernel⟩, List.mem_of_getElem? (i := 976) (by decide +kernel), List.mem_of_getElem? (i := 1426) (by decide +kernel), List.mem_of_getElem? (i := 1427) (by decide +kernel)⟩
theorem lw_p68 : lw_okq (⟨"FontListModel", "bestNames", "(I)I"⟩, 69) := ⟨⟨by decide +kernel, by decide +kernel⟩, List.mem_of_getElem? (i := 976) (by decide +kernel), List.mem_of_getElem? (i := 1433) (by decide +kernel), List.mem_of_getElem? (i := 1434) (by decide +kernel)⟩
theorem lw_p69 : lw_okq (⟨"FontListModel", "isBy", "(II)Z"⟩, 69) := ⟨⟨by decide +kernel, by decide +kernel⟩, List.mem_of_getElem? (i := 976) (by decide +kernel), List.mem_of_getElem? (i := 1437) (by decide +kernel), List.mem_of_getElem? (i := 1438) (by decide +kernel)⟩
theorem lw_p70 : lw_okq (⟨"FontListModel", "brings", "(II)I"⟩, 69) := ⟨⟨by decide +kernel, by decide +kernel⟩, List.mem_of_getElem? (i := 976) (by decide +kernel), List.mem_of_getElem? (i := 1441) (by decide +kernel), List.mem_of_getElem? (i := 1442) (by decide +kernel)⟩
theorem lw_p71 : lw_okq (⟨"FontListModel", "pointsBy", "(II)I"⟩, 69) := ⟨⟨by decide +kernel, by decide +kernel⟩, List.mem_of_getElem? (i := 976) (by decide +kernel), List.mem_of_getElem? (i := 1445) (by decide +kernel), List.mem_of_getElem? (i := 1446) (by decide +kernel)⟩
theorem lw_p72 : lw_okq (⟨"FontListModel", "placeOf", "(III)I"⟩, 69) := ⟨⟨by decide +kernel, by decide +kernel⟩, List.mem_of_getElem? (i := 976) (by decide +kernel), List.mem_of_getElem? (i := 1457) (by decide +kernel), List.mem_of_getElem? (i := 1458) (by decide +kernel)⟩
theorem lw_p73 : lw_okq (⟨"FontListModel", "finds", "()V"⟩, 69) := ⟨⟨by decide +kernel, by decide +kernel⟩, List.mem_of_getElem? (i := 976) (by decide +kernel), List.mem_of_getElem? (i := 1469) (by decide +kernel), List.mem_of_getElem? (i := 1470) (by decide +kernel)⟩
theorem lw_p74 : lw_okq (⟨"FontListModel", "families", "()V"⟩, 69) := ⟨⟨by decide +kernel, by decide +kernel⟩, List.mem_of_getElem? (i := 976) (by decide +kernel), List.mem_of_getElem? (i := 1473) (by decide +kernel), List.mem_of_getElem? (i := 1474) (by decide +kernel)⟩
theorem lw_p75 : lw_okq (⟨"FontListModel", "allows", "()V"⟩, 69) := ⟨⟨by decide +kernel, by decide +kernel⟩, List.mem_of_getElem? (i := 976) (by decide +kernel), List.mem_of_getElem? (i := 1478) (by decide +kernel), List.mem_of_getElem? (i := 1479) (by decide +kernel)⟩
theorem lw_p76 : lw_okq (⟨"FontListModel", "works", "()V"⟩, 69) := ⟨⟨by decide +kernel, by decide +kernel⟩, List.mem_of_getElem? (i := 976) (by decide +kernel), List.mem_of_getElem? (i := 1482) (by decide +kernel), List.mem_of_getElem? (i := 1483) (by decide +kernel)⟩
theorem lw_p77 : lw_okq (⟨"FontListModel", "barred", "(I)I"⟩, 69) := ⟨⟨by decide +kernel, by decide +kernel⟩, List.mem_of_getElem? (i := 976) (by decide +kernel), List.mem_of_getElem? (i := 1486) (by decide +kernel), List.mem_of_getElem? (i := 1487) (by decide +kernel)⟩
theorem lw_p78 : lw_okq (⟨"FontListModel", "comes", "(IIJ)V"⟩, 69) := ⟨⟨by decide +kernel, by decide +kernel⟩, List.mem_of_getElem? (i := 976) (by decide +kernel), List.mem_of_getElem? (i := 1493) (by decide +kernel), List.mem_of_getElem? (i := 1494) (by decide +kernel)⟩
theorem lw_p79 : lw_okq (⟨"FontListModel", "setOf", "(I)I"⟩, 69) := ⟨⟨by decide +kernel, by decide +kernel⟩, List.mem_of_getElem? (i := 976) (by decide +kernel), List.mem_of_getElem? (i := 1510) (by decide +kernel), List.mem_of_getElem? (i := 1511) (by decide +kernel)⟩
def lw_privs_5 : List (MethodName × Nat) := [(⟨"FontListModel", "holds", "(III)Z"⟩, 69), (⟨"FontListModel", "does", "(II)V"⟩, 69), (⟨"FontListModel", "value", "(III)I"⟩, 69), (⟨"FontListModel", "told", "(II)I"⟩, 69), (⟨"FontListModel", "bestNames", "(I)I"⟩, 69), (⟨"FontListModel", "isBy", "(II)Z"⟩, 69), (⟨"FontListModel", "brings", "(II)I"⟩, 69), (⟨"FontListModel", "pointsBy", "(II)I"⟩, 69), (⟨"FontListModel", "placeOf", "(III)I"⟩, 69), (⟨"FontListModel", "finds", "()V"⟩, 69), (⟨"FontListModel", "families", "()V"⟩, 69), (⟨"FontListModel", "allows", "()V"⟩, 69), (⟨"FontListModel", "works", "()V"⟩, 69), (⟨"FontListModel", "barred", "(I)I"⟩, 69), (⟨"FontListModel", "comes", "(IIJ)V"⟩, 69), (⟨"FontListModel", "setOf", "(I)I"⟩, 69)]
theorem lw_r5 : ∀ q ∈ lw_privs_5, lw_okq q := List.forall_mem_cons.mpr ⟨lw_p64, List.forall_mem_cons.mpr ⟨lw_p65, List.forall_mem_cons.mpr ⟨lw_p66, List.forall_mem_cons.mpr ⟨lw_p67, List.forall_mem_cons.mpr ⟨lw_p68, List.forall_mem_cons.mpr ⟨lw_p69, List.forall_mem_cons.mpr ⟨lw_p70, List.forall_mem_cons.mpr ⟨lw_p71, List.forall_mem_cons.mpr ⟨lw_p72, List.forall_mem_cons.mpr ⟨lw_p73, List.forall_mem_cons.mpr ⟨lw_p74, List.forall_mem_cons.mpr ⟨lw_p75, List.forall_mem_cons.mpr ⟨lw_p76, List.forall_mem_cons.mpr ⟨lw_p77, List.forall_mem_cons.mpr ⟨lw_p78, List.forall_mem_cons.mpr ⟨lw_p79, fun _ h => absurd h List.not_mem_nil⟩⟩⟩⟩⟩⟩⟩⟩⟩⟩⟩⟩⟩⟩⟩⟩
theorem lw_p80 : lw_okq (⟨"FontListModel", "needs", "(II)V"⟩, 69) := ⟨⟨by decide +kernel, by decide +kernel⟩, List.mem_of_getElem? (i := 976) (by decide +kernel), List.mem_of_getElem? (i := 1521) (by decide +kernel), List.mem_of_getElem? (i := 1522) (by decide +kernel)⟩
theorem lw_p81 : lw_okq (⟨"FontListModel", "wayOf", "()I"⟩, 69) := ⟨⟨by decide +kernel, by decide +kernel⟩, List.mem_of_getElem? (i := 976) (by decide +kernel), List.mem_of_getElem? (i := 1529) (by decide +kernel), List.mem_of_getElem? (i := 1530) (by decide +kernel)⟩
theorem lw_p82 : lw_okq (⟨"FontListModel", "setBy", "(I)I"⟩, 69) := ⟨⟨by decide +kernel, by decide +kernel⟩, List.mem_of_getElem? (i := 976) (by decide +kernel), List.mem_of_getElem? (i := 1534) (by decide +kernel), List.mem_of_getElem? (i := 1535) (by decide +kernel)⟩
theorem lw_p83 : lw_okq (⟨"FontListModel", "wayPoints", "()I"⟩, 69) := ⟨⟨by decide +kernel, by decide +kernel⟩, List.mem_of_getElem? (i := 976) (by decide +kernel), List.mem_of_getElem? (i := 1539) (by decide +kernel), List.mem_of_getElem? (i := 1540) (by decide +kernel)⟩
def lw_privs_6 : List (MethodName × Nat) := [(⟨"FontListModel", "needs", "(II)V"⟩, 69), (⟨"FontListModel", "wayOf", "()I"⟩, 69), (⟨"FontListModel", "setBy", "(I)I"⟩, 69), (⟨"FontListModel", "wayPoints", "()I"⟩, 69)]
theorem lw_r6 : ∀ q ∈ lw_privs_6, lw_okq q := List.forall_mem_cons.mpr ⟨lw_p80, List.forall_mem_cons.mpr ⟨lw_p81, List.forall_mem_cons.mpr ⟨lw_p82, List.forall_mem_cons.mpr ⟨lw_p83, fun _ h => absurd h List.not_mem_nil⟩⟩⟩⟩
def lw_privs : List (MethodName × Nat) := lw_privs_1 ++ (lw_privs_2 ++ (lw_privs_3 ++ (lw_privs_4 ++ (lw_privs_5 ++ (lw_privs_6)))))
def lw_tbl : List Cond := k2_sels lw_privs ++ tables_1
theorem lw_privs_ok : ∀ q ∈ lw_privs, lw_okq q := by
  show ∀ q ∈ lw_privs_1 ++ (lw_privs_2 ++ (lw_privs_3 ++ (lw_privs_4 ++ (lw_privs_5 ++ (lw_privs_6))))), lw_okq q
  exact List.forall_mem_append.mpr ⟨lw_r1, List.forall_mem_append.mpr ⟨lw_r2, List.forall_mem_append.mpr ⟨lw_r3, List.forall_mem_append.mpr ⟨lw_r4, List.forall_mem_append.mpr ⟨lw_r5, lw_r6⟩⟩⟩⟩⟩
end
section
def RX0 : String := "FontList$Books"
def TX0 : u_T := fun k => match k with
  | 0 => ("FontList$Books", "names", "LFontList$Names;", true)
  | 1 => ("FontList$Books", "couples", "LFontList$Couples;", true)
  | 2 => ("FontList$Books", "fonts", "LFontList$Fonts;", true)
  | 3 => ("FontList$Books", "loss", "I", false)
  | _ => ("FontList$Books", "alone", "I", false)
def tyX0 : Nat → FieldType := fun k => match k with
  | 0 => .object "FontList$Names"
  | 1 => .object "FontList$Couples"
  | 2 => .object "FontList$Fonts"
  | 3 => .int
  | _ => .int
theorem nmX0 : ∀ a, a < 5 → ∀ b, b < 5 → a ≠ b → (TX0 a).2.1 ≠ (TX0 b).2.1 := by decide +kernel
theorem tyX0_ok : ∀ k, k < 5 → parseFieldDescriptor (TX0 k).2.2.1 = some (tyX0 k) := by decide +kernel
abbrev cX0_init : ByteArray := prog_2_method_1_code
def yX0_init : MethodName := ⟨RX0, "<init>", "()V"⟩
abbrev cX0_knows : ByteArray := prog_2_method_2_code
def yX0_knows : MethodName := ⟨RX0, "knows", "(II)Z"⟩
abbrev cX0_canTie : ByteArray := prog_2_method_3_code
def yX0_canTie : MethodName := ⟨RX0, "canTie", "(II)Z"⟩
abbrev cX0_tiesOf : ByteArray := prog_2_method_4_code
def yX0_tiesOf : MethodName := ⟨RX0, "tiesOf", "(I)I"⟩
def RX1 : String := "FontList$Couples"
def TX1 : u_T := fun k => match k with
  | 0 => ("FontList$Couples", "husband", "[I", true)
  | 1 => ("FontList$Couples", "wife", "[I", true)
  | 2 => ("FontList$Couples", "wed", "[I", true)
  | 3 => ("FontList$Couples", "last", "[I", true)
  | 4 => ("FontList$Couples", "parents", "[I", true)
  | _ => ("FontList$Couples", "size", "I", false)
def tyX1 : Nat → FieldType := fun k => match k with
  | 0 => .array .int
  | 1 => .array .int
  | 2 => .array .int
  | 3 => .array .int
  | 4 => .array .int
  | _ => .int
theorem nmX1 : ∀ a, a < 6 → ∀ b, b < 6 → a ≠ b → (TX1 a).2.1 ≠ (TX1 b).2.1 := by decide +kernel
theorem tyX1_ok : ∀ k, k < 6 → parseFieldDescriptor (TX1 k).2.2.1 = some (tyX1 k) := by decide +kernel
abbrev cX1_init : ByteArray := prog_3_method_1_code
def yX1_init : MethodName := ⟨RX1, "<init>", "()V"⟩
abbrev cX1_has : ByteArray := prog_3_method_2_code
def yX1_has : MethodName := ⟨RX1, "has", "(I)Z"⟩
abbrev cX1_add : ByteArray := prog_3_method_3_code
def yX1_add : MethodName := ⟨RX1, "add", "(IIII)I"⟩
abbrev cX1_tellParent : ByteArray := prog_3_method_4_code
def yX1_tellParent : MethodName := ⟨RX1, "tellParent", "(III)V"⟩
abbrev cX1_parentOf : ByteArray := prog_3_method_5_code
def yX1_parentOf : MethodName := ⟨RX1, "parentOf", "(II)I"⟩
def RX2 : String := "FontList$Custom"
def TX2 : u_T := fun k => match k with
  | 0 => ("FontList$Custom", "letters", "[I", true)
  | 1 => ("FontList$Custom", "ends", "[I", true)
  | 2 => ("FontList$Custom", "signs", "[I", true)
  | 3 => ("FontList$Custom", "values", "[I", true)
  | 4 => ("FontList$Custom", "stack", "[I", true)
  | 5 => ("FontList$Custom", "steps", "I", false)
  | _ => ("FontList$Custom", "clauses", "I", false)
def tyX2 : Nat → FieldType := fun k => match k with
  | 0 => .array .int
  | 1 => .array .int
  | 2 => .array .int
  | 3 => .array .int
  | 4 => .array .int
  | 5 => .int
  | _ => .int
theorem nmX2 : ∀ a, a < 7 → ∀ b, b < 7 → a ≠ b → (TX2 a).2.1 ≠ (TX2 b).2.1 := by decide +kernel
theorem tyX2_ok : ∀ k, k < 7 → parseFieldDescriptor (TX2 k).2.2.1 = some (tyX2 k) := by decide +kernel
abbrev cX2_init : ByteArray := prog_4_method_1_code
def yX2_init : MethodName := ⟨RX2, "<init>", "()V"⟩
abbrev cX2_clear : ByteArray := prog_4_method_2_code
def yX2_clear : MethodName := ⟨RX2, "clear", "()V"⟩
abbrev cX2_addStep : ByteArray := prog_4_method_3_code
def yX2_addStep : MethodName := ⟨RX2, "addStep", "(II)I"⟩
abbrev cX2_leadHere : ByteArray := prog_4_method_4_code
def yX2_leadHere : MethodName := ⟨RX2, "leadHere", "(I)V"⟩
abbrev cX2_endClause : ByteArray := prog_4_method_5_code
def yX2_endClause : MethodName := ⟨RX2, "endClause", "(I)V"⟩
abbrev cX2_firstFor : ByteArray := prog_4_method_6_code
def yX2_firstFor : MethodName := ⟨RX2, "firstFor", "([II)I"⟩
abbrev cX2_holds : ByteArray := prog_4_method_7_code
def yX2_holds : MethodName := ⟨RX2, "holds", "(II[I)Z"⟩
abbrev cX2_factAt : ByteArray := prog_4_method_8_code
def yX2_factAt : MethodName := ⟨RX2, "factAt", "([II)I"⟩
abbrev cX2_reckon : ByteArray := prog_4_method_9_code
def yX2_reckon : MethodName := ⟨RX2, "reckon", "(III)I"⟩
def RX3 : String := "FontList$Family"
def TX3 : u_T := fun k => match k with
  | 0 => ("FontList$Family", "books", "LFontList$Books;", true)
  | 1 => ("FontList$Family", "child", "[I", true)
  | 2 => ("FontList$Family", "letter", "[I", true)
  | 3 => ("FontList$Family", "dead", "[I", true)
  | 4 => ("FontList$Family", "held", "[I", true)
  | 5 => ("FontList$Family", "facts", "[I", true)
  | 6 => ("FontList$Family", "foreseen", "[I", true)
  | 7 => ("FontList$Family", "couple", "I", false)
  | _ => ("FontList$Family", "size", "I", false)
def tyX3 : Nat → FieldType := fun k => match k with
  | 0 => .object "FontList$Books"
  | 1 => .array .int
  | 2 => .array .int
  | 3 => .array .int
  | 4 => .array .int
  | 5 => .array .int
  | 6 => .array .int
  | 7 => .int
  | _ => .int
theorem nmX3 : ∀ a, a < 9 → ∀ b, b < 9 → a ≠ b → (TX3 a).2.1 ≠ (TX3 b).2.1 := by decide +kernel
theorem tyX3_ok : ∀ k, k < 9 → parseFieldDescriptor (TX3 k).2.2.1 = some (tyX3 k) := by decide +kernel
abbrev cX3_init : ByteArray := prog_5_method_1_code
def yX3_init : MethodName := ⟨RX3, "<init>", "(LFontList$Books;)V"⟩
abbrev cX3_gather : ByteArray := prog_5_method_2_code
def yX3_gather : MethodName := ⟨RX3, "gather", "(II)Z"⟩
abbrev cX3_fitsElders : ByteArray := prog_5_method_3_code
def yX3_fitsElders : MethodName := ⟨RX3, "fitsElders", "(I)Z"⟩
abbrev cX3_worth : ByteArray := prog_5_method_4_code
def yX3_worth : MethodName := ⟨RX3, "worth", "(IILFontList$Usage;)I"⟩
abbrev cX3_ask : ByteArray := prog_5_method_5_code
def yX3_ask : MethodName := ⟨RX3, "ask", "(LFontList$Usage;)V"⟩
abbrev cX3_lowest : ByteArray := prog_5_method_6_code
def yX3_lowest : MethodName := ⟨RX3, "lowest", "(I)I"⟩
abbrev cX3_observe : ByteArray := prog_5_method_7_code
def yX3_observe : MethodName := ⟨RX3, "observe", "(I)I"⟩
abbrev cX3_sexAt : ByteArray := prog_5_method_8_code
def yX3_sexAt : MethodName := ⟨RX3, "sexAt", "(I)I"⟩
abbrev cX3_isTwin : ByteArray := prog_5_method_9_code
def yX3_isTwin : MethodName := ⟨RX3, "isTwin", "(I)Z"⟩
abbrev cX3_placeOf : ByteArray := prog_5_method_10_code
def yX3_placeOf : MethodName := ⟨RX3, "placeOf", "(I)I"⟩
abbrev cX3_letterAt : ByteArray := prog_5_method_11_code
def yX3_letterAt : MethodName := ⟨RX3, "letterAt", "(I)I"⟩
abbrev cX3_due : ByteArray := prog_5_method_12_code
def yX3_due : MethodName := ⟨RX3, "due", "(I)I"⟩
abbrev cX3_gain : ByteArray := prog_5_method_13_code
def yX3_gain : MethodName := ⟨RX3, "gain", "(II)I"⟩
abbrev cX3_namesFor : ByteArray := prog_5_method_14_code
def yX3_namesFor : MethodName := ⟨RX3, "namesFor", "(I)I"⟩
abbrev cX3_gainOfAll : ByteArray := prog_5_method_15_code
def yX3_gainOfAll : MethodName := ⟨RX3, "gainOfAll", "(II)I"⟩
abbrev cX3_missing : ByteArray := prog_5_method_16_code
def yX3_missing : MethodName := ⟨RX3, "missing", "(ILFontList$Usage;)I"⟩
abbrev cX3_mayHold : ByteArray := prog_5_method_17_code
def yX3_mayHold : MethodName := ⟨RX3, "mayHold", "(II)Z"⟩
abbrev cX3_foresee : ByteArray := prog_5_method_18_code
def yX3_foresee : MethodName := ⟨RX3, "foresee", "(LFontList$Usage;)V"⟩
abbrev cX3_fewest : ByteArray := prog_5_method_19_code
def yX3_fewest : MethodName := ⟨RX3, "fewest", "(I)I"⟩
abbrev cX3_suits : ByteArray := prog_5_method_20_code
def yX3_suits : MethodName := ⟨RX3, "suits", "(II)Z"⟩
def RX4 : String := "FontList$Fonts"
def TX4 : u_T := fun k => match k with
  | 0 => ("FontList$Fonts", "name", "[I", true)
  | 1 => ("FontList$Fonts", "year", "[I", true)
  | 2 => ("FontList$Fonts", "father", "[I", true)
  | 3 => ("FontList$Fonts", "mother", "[I", true)
  | 4 => ("FontList$Fonts", "sponsor", "[I", true)
  | 5 => ("FontList$Fonts", "gone", "[I", true)
  | 6 => ("FontList$Fonts", "order", "[I", true)
  | _ => ("FontList$Fonts", "size", "I", false)
def tyX4 : Nat → FieldType := fun k => match k with
  | 0 => .array .int
  | 1 => .array .int
  | 2 => .array .int
  | 3 => .array .int
  | 4 => .array .int
  | 5 => .array .int
  | 6 => .array .int
  | _ => .int
theorem nmX4 : ∀ a, a < 8 → ∀ b, b < 8 → a ≠ b → (TX4 a).2.1 ≠ (TX4 b).2.1 := by decide +kernel
theorem tyX4_ok : ∀ k, k < 8 → parseFieldDescriptor (TX4 k).2.2.1 = some (tyX4 k) := by decide +kernel
abbrev cX4_init : ByteArray := prog_6_method_1_code
def yX4_init : MethodName := ⟨RX4, "<init>", "()V"⟩
abbrev cX4_has : ByteArray := prog_6_method_2_code
def yX4_has : MethodName := ⟨RX4, "has", "(I)Z"⟩
abbrev cX4_add : ByteArray := prog_6_method_3_code
def yX4_add : MethodName := ⟨RX4, "add", "(IIIII)I"⟩
abbrev cX4_putInOrder : ByteArray := prog_6_method_4_code
def yX4_putInOrder : MethodName := ⟨RX4, "putInOrder", "(I)V"⟩
abbrev cX4_goneBy : ByteArray := prog_6_method_5_code
def yX4_goneBy : MethodName := ⟨RX4, "goneBy", "(II)Z"⟩
abbrev cX4_changesAt : ByteArray := prog_6_method_6_code
def yX4_changesAt : MethodName := ⟨RX4, "changesAt", "(I)Z"⟩
def RX5 : String := "FontList$Names"
def TX5 : u_T := fun k => match k with
  | 0 => ("FontList$Names", "sex", "[I", true)
  | 1 => ("FontList$Names", "says", "[I", true)
  | _ => ("FontList$Names", "size", "I", false)
def tyX5 : Nat → FieldType := fun k => match k with
  | 0 => .array .int
  | 1 => .array .int
  | _ => .int
theorem nmX5 : ∀ a, a < 3 → ∀ b, b < 3 → a ≠ b → (TX5 a).2.1 ≠ (TX5 b).2.1 := by decide +kernel
theorem tyX5_ok : ∀ k, k < 3 → parseFieldDescriptor (TX5 k).2.2.1 = some (tyX5 k) := by decide +kernel
abbrev cX5_init : ByteArray := prog_7_method_1_code
def yX5_init : MethodName := ⟨RX5, "<init>", "()V"⟩
abbrev cX5_has : ByteArray := prog_7_method_2_code
def yX5_has : MethodName := ⟨RX5, "has", "(II)Z"⟩
abbrev cX5_add : ByteArray := prog_7_method_3_code
def yX5_add : MethodName := ⟨RX5, "add", "(II)I"⟩
def RX6 : String := "FontList$Reader"
def TX6 : u_T := fun k => match k with
  | 0 => ("FontList$Reader", "text", "[C", true)
  | 1 => ("FontList$Reader", "draft", "LFontList$Custom;", false)
  | 2 => ("FontList$Reader", "length", "I", false)
  | 3 => ("FontList$Reader", "at", "I", false)
  | _ => ("FontList$Reader", "fault", "I", false)
def tyX6 : Nat → FieldType := fun k => match k with
  | 0 => .array .char
  | 1 => .object "FontList$Custom"
  | 2 => .int
  | 3 => .int
  | _ => .int
theorem nmX6 : ∀ a, a < 5 → ∀ b, b < 5 → a ≠ b → (TX6 a).2.1 ≠ (TX6 b).2.1 := by decide +kernel
theorem tyX6_ok : ∀ k, k < 5 → parseFieldDescriptor (TX6 k).2.2.1 = some (tyX6 k) := by decide +kernel
abbrev cX6_init : ByteArray := prog_8_method_1_code
def yX6_init : MethodName := ⟨RX6, "<init>", "()V"⟩
abbrev cX6_read : ByteArray := prog_8_method_2_code
def yX6_read : MethodName := ⟨RX6, "read", "(LFontList$Tape;I)I"⟩
abbrev cX6_exchange : ByteArray := prog_8_method_3_code
def yX6_exchange : MethodName := ⟨RX6, "exchange", "(LFontList$Custom;)LFontList$Custom;"⟩
abbrev cX6_peek : ByteArray := prog_8_method_4_code
def yX6_peek : MethodName := ⟨RX6, "peek", "()C"⟩
abbrev cX6_refuse : ByteArray := prog_8_method_5_code
def yX6_refuse : MethodName := ⟨RX6, "refuse", "(I)Z"⟩
abbrev cX6_take : ByteArray := prog_8_method_6_code
def yX6_take : MethodName := ⟨RX6, "take", "(C)Z"⟩
abbrev cX6_clause : ByteArray := prog_8_method_7_code
def yX6_clause : MethodName := ⟨RX6, "clause", "()Z"⟩
abbrev cX6_signsOf : ByteArray := prog_8_method_8_code
def yX6_signsOf : MethodName := ⟨RX6, "signsOf", "(I)Ljava/lang/String;"⟩
abbrev cX6_chain : ByteArray := prog_8_method_9_code
def yX6_chain : MethodName := ⟨RX6, "chain", "(II)Z"⟩
abbrev cX6_operand : ByteArray := prog_8_method_10_code
def yX6_operand : MethodName := ⟨RX6, "operand", "(II)Z"⟩
abbrev cX6_piece : ByteArray := prog_8_method_11_code
def yX6_piece : MethodName := ⟨RX6, "piece", "(I)Z"⟩
abbrev cX6_comparison : ByteArray := prog_8_method_12_code
def yX6_comparison : MethodName := ⟨RX6, "comparison", "(I)Z"⟩
abbrev cX6_factor : ByteArray := prog_8_method_13_code
def yX6_factor : MethodName := ⟨RX6, "factor", "(I)Z"⟩
abbrev cX6_isDigit : ByteArray := prog_8_method_14_code
def yX6_isDigit : MethodName := ⟨RX6, "isDigit", "(C)Z"⟩
abbrev cX6_number : ByteArray := prog_8_method_15_code
def yX6_number : MethodName := ⟨RX6, "number", "()Z"⟩
def RX7 : String := "FontList$Row"
def TX7 : u_T := fun k => match k with
  | 0 => ("FontList$Row", "books", "LFontList$Books;", true)
  | 1 => ("FontList$Row", "family", "LFontList$Family;", true)
  | _ => ("FontList$Row", "sets", "[I", true)
def tyX7 : Nat → FieldType := fun k => match k with
  | 0 => .object "FontList$Books"
  | 1 => .object "FontList$Family"
  | _ => .array .int
theorem nmX7 : ∀ a, a < 3 → ∀ b, b < 3 → a ≠ b → (TX7 a).2.1 ≠ (TX7 b).2.1 := by decide +kernel
theorem tyX7_ok : ∀ k, k < 3 → parseFieldDescriptor (TX7 k).2.2.1 = some (tyX7 k) := by decide +kernel
abbrev cX7_init : ByteArray := prog_9_method_1_code
def yX7_init : MethodName := ⟨RX7, "<init>", "(LFontList$Books;LFontList$Family;)V"⟩
abbrev cX7_take : ByteArray := prog_9_method_2_code
def yX7_take : MethodName := ⟨RX7, "take", "(LFontList$Tape;)I"⟩
abbrev cX7_firstBroken : ByteArray := prog_9_method_3_code
def yX7_firstBroken : MethodName := ⟨RX7, "firstBroken", "()I"⟩
abbrev cX7_worthBy : ByteArray := prog_9_method_4_code
def yX7_worthBy : MethodName := ⟨RX7, "worthBy", "(LFontList$Usage;)I"⟩
abbrev cX7_learn : ByteArray := prog_9_method_5_code
def yX7_learn : MethodName := ⟨RX7, "learn", "(LFontList$Usage;II)I"⟩
def RX8 : String := "FontList$Tape"
def TX8 : u_T := fun k => match k with
  | 0 => ("FontList$Tape", "bytes", "[I", true)
  | _ => ("FontList$Tape", "size", "I", false)
def tyX8 : Nat → FieldType := fun k => match k with
  | 0 => .array .int
  | _ => .int
theorem nmX8 : ∀ a, a < 2 → ∀ b, b < 2 → a ≠ b → (TX8 a).2.1 ≠ (TX8 b).2.1 := by decide +kernel
theorem tyX8_ok : ∀ k, k < 2 → parseFieldDescriptor (TX8 k).2.2.1 = some (tyX8 k) := by decide +kernel
abbrev cX8_init : ByteArray := prog_10_method_1_code
def yX8_init : MethodName := ⟨RX8, "<init>", "()V"⟩
abbrev cX8_hasRoom : ByteArray := prog_10_method_2_code
def yX8_hasRoom : MethodName := ⟨RX8, "hasRoom", "()Z"⟩
abbrev cX8_append : ByteArray := prog_10_method_3_code
def yX8_append : MethodName := ⟨RX8, "append", "(I)V"⟩
abbrev cX8_at : ByteArray := prog_10_method_4_code
def yX8_at : MethodName := ⟨RX8, "at", "(I)I"⟩
abbrev cX8_clear : ByteArray := prog_10_method_5_code
def yX8_clear : MethodName := ⟨RX8, "clear", "()V"⟩
def RX9 : String := "FontList$Usage"
def TX9 : u_T := fun k => match k with
  | 0 => ("FontList$Usage", "told", "[LFontList$Custom;", true)
  | 1 => ("FontList$Usage", "ahead", "I", false)
  | 2 => ("FontList$Usage", "since", "I", false)
  | _ => ("FontList$Usage", "change", "I", false)
def tyX9 : Nat → FieldType := fun k => match k with
  | 0 => .array (.object "FontList$Custom")
  | 1 => .int
  | 2 => .int
  | _ => .int
theorem nmX9 : ∀ a, a < 4 → ∀ b, b < 4 → a ≠ b → (TX9 a).2.1 ≠ (TX9 b).2.1 := by decide +kernel
theorem tyX9_ok : ∀ k, k < 4 → parseFieldDescriptor (TX9 k).2.2.1 = some (tyX9 k) := by decide +kernel
abbrev cX9_init : ByteArray := prog_11_method_1_code
def yX9_init : MethodName := ⟨RX9, "<init>", "([LFontList$Custom;)V"⟩
abbrev cX9_tell : ByteArray := prog_11_method_2_code
def yX9_tell : MethodName := ⟨RX9, "tell", "(III)V"⟩
abbrev cX9_clausesOf : ByteArray := prog_11_method_3_code
def yX9_clausesOf : MethodName := ⟨RX9, "clausesOf", "(I)I"⟩
abbrev cX9_isTold : ByteArray := prog_11_method_4_code
def yX9_isTold : MethodName := ⟨RX9, "isTold", "(I)Z"⟩
abbrev cX9_anyTold : ByteArray := prog_11_method_5_code
def yX9_anyTold : MethodName := ⟨RX9, "anyTold", "()Z"⟩
abbrev cX9_inYear : ByteArray := prog_11_method_6_code
def yX9_inYear : MethodName := ⟨RX9, "inYear", "(I)LFontList$Custom;"⟩
def RX10 : String := "FontList$Ways"
def TX10 : u_T := fun k => match k with
  | 0 => ("FontList$Ways", "books", "LFontList$Books;", true)
  | 1 => ("FontList$Ways", "family", "LFontList$Family;", true)
  | 2 => ("FontList$Ways", "worth", "[I", true)
  | 3 => ("FontList$Ways", "spread", "[I", true)
  | 4 => ("FontList$Ways", "most", "[I", true)
  | 5 => ("FontList$Ways", "next", "[I", true)
  | 6 => ("FontList$Ways", "least", "[I", true)
  | 7 => ("FontList$Ways", "common", "[I", true)
  | 8 => ("FontList$Ways", "bests", "[J", true)
  | 9 => ("FontList$Ways", "all", "[J", true)
  | _ => ("FontList$Ways", "settled", "Z", false)
def tyX10 : Nat → FieldType := fun k => match k with
  | 0 => .object "FontList$Books"
  | 1 => .object "FontList$Family"
  | 2 => .array .int
  | 3 => .array .int
  | 4 => .array .int
  | 5 => .array .int
  | 6 => .array .int
  | 7 => .array .int
  | 8 => .array .long
  | 9 => .array .long
  | _ => .boolean
theorem nmX10 : ∀ a, a < 11 → ∀ b, b < 11 → a ≠ b → (TX10 a).2.1 ≠ (TX10 b).2.1 := by decide +kernel
theorem tyX10_ok : ∀ k, k < 11 → parseFieldDescriptor (TX10 k).2.2.1 = some (tyX10 k) := by decide +kernel
abbrev cX10_init : ByteArray := prog_12_method_1_code
def yX10_init : MethodName := ⟨RX10, "<init>", "(LFontList$Books;LFontList$Family;)V"⟩
abbrev cX10_shiftOf : ByteArray := prog_12_method_2_code
def yX10_shiftOf : MethodName := ⟨RX10, "shiftOf", "(I)I"⟩
abbrev cX10_forget : ByteArray := prog_12_method_3_code
def yX10_forget : MethodName := ⟨RX10, "forget", "()V"⟩
abbrev cX10_whole : ByteArray := prog_12_method_4_code
def yX10_whole : MethodName := ⟨RX10, "whole", "()I"⟩
abbrev cX10_settle : ByteArray := prog_12_method_5_code
def yX10_settle : MethodName := ⟨RX10, "settle", "(LFontList$Usage;)V"⟩
abbrev cX10_startEmpty : ByteArray := prog_12_method_6_code
def yX10_startEmpty : MethodName := ⟨RX10, "startEmpty", "(I)V"⟩
abbrev cX10_widen : ByteArray := prog_12_method_7_code
def yX10_widen : MethodName := ⟨RX10, "widen", "(III)V"⟩
abbrev cX10_shared : ByteArray := prog_12_method_8_code
def yX10_shared : MethodName := ⟨RX10, "shared", "(II)I"⟩
abbrev cX10_coupleOf : ByteArray := prog_12_method_9_code
def yX10_coupleOf : MethodName := ⟨RX10, "coupleOf", "(I)I"⟩
abbrev cX10_alwaysOf : ByteArray := prog_12_method_10_code
def yX10_alwaysOf : MethodName := ⟨RX10, "alwaysOf", "(I)I"⟩
abbrev cX10_familyOf : ByteArray := prog_12_method_11_code
def yX10_familyOf : MethodName := ⟨RX10, "familyOf", "(I)I"⟩
abbrev cX10_mostPoints : ByteArray := prog_12_method_12_code
def yX10_mostPoints : MethodName := ⟨RX10, "mostPoints", "()I"⟩
abbrev cX10_howManyBest : ByteArray := prog_12_method_13_code
def yX10_howManyBest : MethodName := ⟨RX10, "howManyBest", "()J"⟩
abbrev cX10_howMany : ByteArray := prog_12_method_14_code
def yX10_howMany : MethodName := ⟨RX10, "howMany", "()J"⟩
abbrev cX10_gap : ByteArray := prog_12_method_15_code
def yX10_gap : MethodName := ⟨RX10, "gap", "()I"⟩
def RX11 : String := "FontList"
def TX11 : u_T := fun k => match k with
  | 0 => ("FontList", "books", "LFontList$Books;", true)
  | 1 => ("FontList", "tape", "LFontList$Tape;", true)
  | 2 => ("FontList", "told", "[LFontList$Custom;", true)
  | 3 => ("FontList", "reader", "LFontList$Reader;", true)
  | 4 => ("FontList", "usage", "LFontList$Usage;", true)
  | 5 => ("FontList", "trial", "LFontList$Usage;", true)
  | 6 => ("FontList", "household", "LFontList$Family;", true)
  | 7 => ("FontList", "row", "LFontList$Row;", true)
  | _ => ("FontList", "search", "LFontList$Ways;", true)
def tyX11 : Nat → FieldType := fun k => match k with
  | 0 => .object "FontList$Books"
  | 1 => .object "FontList$Tape"
  | 2 => .array (.object "FontList$Custom")
  | 3 => .object "FontList$Reader"
  | 4 => .object "FontList$Usage"
  | 5 => .object "FontList$Usage"
  | 6 => .object "FontList$Family"
  | 7 => .object "FontList$Row"
  | _ => .object "FontList$Ways"
theorem nmX11 : ∀ a, a < 9 → ∀ b, b < 9 → a ≠ b → (TX11 a).2.1 ≠ (TX11 b).2.1 := by decide +kernel
theorem tyX11_ok : ∀ k, k < 9 → parseFieldDescriptor (TX11 k).2.2.1 = some (tyX11 k) := by decide +kernel
abbrev cX11_init : ByteArray := prog_1_method_1_code
def yX11_init : MethodName := ⟨RX11, "<init>", "()V"⟩
abbrev cX11_name : ByteArray := prog_1_method_2_code
def yX11_name : MethodName := ⟨RX11, "name", "(II)I"⟩
abbrev cX11_couple : ByteArray := prog_1_method_3_code
def yX11_couple : MethodName := ⟨RX11, "couple", "(IIII)I"⟩
abbrev cX11_parent : ByteArray := prog_1_method_4_code
def yX11_parent : MethodName := ⟨RX11, "parent", "(III)Z"⟩
abbrev cX11_christening : ByteArray := prog_1_method_5_code
def yX11_christening : MethodName := ⟨RX11, "christening", "(IIIII)I"⟩
abbrev cX11_died : ByteArray := prog_1_method_6_code
def yX11_died : MethodName := ⟨RX11, "died", "(II)Z"⟩
abbrev cX11_weighs : ByteArray := prog_1_method_7_code
def yX11_weighs : MethodName := ⟨RX11, "weighs", "(II)Z"⟩
abbrev cX11_feed : ByteArray := prog_1_method_8_code
def yX11_feed : MethodName := ⟨RX11, "feed", "(IIIII)I"⟩
abbrev cX11_custom : ByteArray := prog_1_method_9_code
def yX11_custom : MethodName := ⟨RX11, "custom", "(II)I"⟩
abbrev cX11_customs : ByteArray := prog_1_method_10_code
def yX11_customs : MethodName := ⟨RX11, "customs", "(III)Z"⟩
abbrev cX11_tie : ByteArray := prog_1_method_11_code
def yX11_tie : MethodName := ⟨RX11, "tie", "(II)I"⟩
abbrev cX11_family : ByteArray := prog_1_method_12_code
def yX11_family : MethodName := ⟨RX11, "family", "(II)I"⟩
abbrev cX11_points : ByteArray := prog_1_method_13_code
def yX11_points : MethodName := ⟨RX11, "points", "(II)I"⟩
abbrev cX11_by : ByteArray := prog_1_method_14_code
def yX11_by : MethodName := ⟨RX11, "by", "(III)I"⟩
abbrev cX11_should : ByteArray := prog_1_method_15_code
def yX11_should : MethodName := ⟨RX11, "should", "(III)I"⟩
abbrev cX11_placeAsked : ByteArray := prog_1_method_16_code
def yX11_placeAsked : MethodName := ⟨RX11, "placeAsked", "(III)I"⟩
abbrev cX11_best : ByteArray := prog_1_method_17_code
def yX11_best : MethodName := ⟨RX11, "best", "(I)I"⟩
abbrev cX11_ways : ByteArray := prog_1_method_18_code
def yX11_ways : MethodName := ⟨RX11, "ways", "(I)J"⟩
abbrev cX11_sure : ByteArray := prog_1_method_19_code
def yX11_sure : MethodName := ⟨RX11, "sure", "(II)I"⟩
abbrev cX11_grand : ByteArray := prog_1_method_20_code
def yX11_grand : MethodName := ⟨RX11, "grand", "(II)I"⟩
abbrev cX11_must : ByteArray := prog_1_method_21_code
def yX11_must : MethodName := ⟨RX11, "must", "(III)I"⟩
abbrev cX11_judge : ByteArray := prog_1_method_22_code
def yX11_judge : MethodName := ⟨RX11, "judge", "()I"⟩
abbrev cX11_learnt : ByteArray := prog_1_method_23_code
def yX11_learnt : MethodName := ⟨RX11, "learnt", "(III)I"⟩
abbrev cX11_little : ByteArray := prog_1_method_24_code
def yX11_little : MethodName := ⟨RX11, "little", "(I)I"⟩
abbrev cX11_fewerWithout : ByteArray := prog_1_method_25_code
def yX11_fewerWithout : MethodName := ⟨RX11, "fewerWithout", "(II)I"⟩
abbrev cX11_check : ByteArray := prog_1_method_26_code
def yX11_check : MethodName := ⟨RX11, "check", "()I"⟩
abbrev cX11_look : ByteArray := prog_1_method_27_code
def yX11_look : MethodName := ⟨RX11, "look", "(II)I"⟩
abbrev cX11_count : ByteArray := prog_1_method_28_code
def yX11_count : MethodName := ⟨RX11, "count", "(I)I"⟩
def RX12 : String := "FontListModel"
def TX12 : u_T := fun k => match k with
  | 0 => ("FontListModel", "tape", "[B", true)
  | 1 => ("FontListModel", "taped", "I", false)
  | 2 => ("FontListModel", "names", "I", false)
  | 3 => ("FontListModel", "couples", "I", false)
  | 4 => ("FontListModel", "fonts", "I", false)
  | 5 => ("FontListModel", "customA", "I", false)
  | 6 => ("FontListModel", "customB", "I", false)
  | 7 => ("FontListModel", "change", "I", false)
  | 8 => ("FontListModel", "loss", "I", false)
  | 9 => ("FontListModel", "alone", "I", false)
  | 10 => ("FontListModel", "sex", "[I", true)
  | 11 => ("FontListModel", "says", "[I", true)
  | 12 => ("FontListModel", "husband", "[I", true)
  | 13 => ("FontListModel", "wife", "[I", true)
  | 14 => ("FontListModel", "wed", "[I", true)
  | 15 => ("FontListModel", "until", "[I", true)
  | 16 => ("FontListModel", "parent", "[I", true)
  | 17 => ("FontListModel", "name", "[I", true)
  | 18 => ("FontListModel", "year", "[I", true)
  | 19 => ("FontListModel", "father", "[I", true)
  | 20 => ("FontListModel", "mother", "[I", true)
  | 21 => ("FontListModel", "sponsor", "[I", true)
  | 22 => ("FontListModel", "died", "[I", true)
  | 23 => ("FontListModel", "isKnown", "Z", false)
  | 24 => ("FontListModel", "many", "[I", true)
  | 25 => ("FontListModel", "clauseLetter", "[I", true)
  | 26 => ("FontListModel", "codeFrom", "[I", true)
  | 27 => ("FontListModel", "codeTo", "[I", true)
  | 28 => ("FontListModel", "code", "[I", true)
  | 29 => ("FontListModel", "codeArg", "[I", true)
  | 30 => ("FontListModel", "newLetter", "[I", true)
  | 31 => ("FontListModel", "newFrom", "[I", true)
  | 32 => ("FontListModel", "newTo", "[I", true)
  | 33 => ("FontListModel", "newCode", "[I", true)
  | 34 => ("FontListModel", "newArg", "[I", true)
  | 35 => ("FontListModel", "place", "I", false)
  | 36 => ("FontListModel", "end", "I", false)
  | 37 => ("FontListModel", "bad", "I", false)
  | 38 => ("FontListModel", "clauses", "I", false)
  | 39 => ("FontListModel", "codes", "I", false)
  | 40 => ("FontListModel", "open", "I", false)
  | 41 => ("FontListModel", "stacked", "I", false)
  | 42 => ("FontListModel", "isOver", "Z", false)
  | 43 => ("FontListModel", "isBehind", "Z", false)
  | 44 => ("FontListModel", "stack", "[I", true)
  | 45 => ("FontListModel", "ofCouple", "I", false)
  | 46 => ("FontListModel", "children", "I", false)
  | 47 => ("FontListModel", "child", "[I", true)
  | 48 => ("FontListModel", "clauseOf", "[I", true)
  | 49 => ("FontListModel", "nameOf", "[I", true)
  | 50 => ("FontListModel", "worth", "[I", true)
  | 51 => ("FontListModel", "isRefused", "[Z", true)
  | 52 => ("FontListModel", "brought", "[I", true)
  | 53 => ("FontListModel", "best", "[I", true)
  | 54 => ("FontListModel", "next", "[I", true)
  | 55 => ("FontListModel", "count", "[J", true)
  | 56 => ("FontListModel", "total", "[J", true)
  | 57 => ("FontListModel", "best2", "[I", true)
  | 58 => ("FontListModel", "next2", "[I", true)
  | 59 => ("FontListModel", "count2", "[J", true)
  | 60 => ("FontListModel", "total2", "[J", true)
  | 61 => ("FontListModel", "allowed", "[I", true)
  | 62 => ("FontListModel", "bestAll", "I", false)
  | 63 => ("FontListModel", "nextAll", "I", false)
  | 64 => ("FontListModel", "bestCount", "J", false)
  | 65 => ("FontListModel", "allCount", "J", false)
  | 66 => ("FontListModel", "row", "[I", true)
  | 67 => ("FontListModel", "can", "[Z", true)
  | _ => ("FontListModel", "canThen", "[Z", true)
def tyX12 : Nat → FieldType := fun k => match k with
  | 0 => .array .byte
  | 1 => .int
  | 2 => .int
  | 3 => .int
  | 4 => .int
  | 5 => .int
  | 6 => .int
  | 7 => .int
  | 8 => .int
  | 9 => .int
  | 10 => .array .int
  | 11 => .array .int
  | 12 => .array .int
  | 13 => .array .int
  | 14 => .array .int
  | 15 => .array .int
  | 16 => .array .int
  | 17 => .array .int
  | 18 => .array .int
  | 19 => .array .int
  | 20 => .array .int
  | 21 => .array .int
  | 22 => .array .int
  | 23 => .boolean
  | 24 => .array .int
  | 25 => .array .int
  | 26 => .array .int
  | 27 => .array .int
  | 28 => .array .int
  | 29 => .array .int
  | 30 => .array .int
  | 31 => .array .int
  | 32 => .array .int
  | 33 => .array .int
  | 34 => .array .int
  | 35 => .int
  | 36 => .int
  | 37 => .int
  | 38 => .int
  | 39 => .int
  | 40 => .int
  | 41 => .int
  | 42 => .boolean
  | 43 => .boolean
  | 44 => .array .int
  | 45 => .int
  | 46 => .int
  | 47 => .array .int
  | 48 => .array .int
  | 49 => .array .int
  | 50 => .array .int
  | 51 => .array .boolean
  | 52 => .array .int
  | 53 => .array .int
  | 54 => .array .int
  | 55 => .array .long
  | 56 => .array .long
  | 57 => .array .int
  | 58 => .array .int
  | 59 => .array .long
  | 60 => .array .long
  | 61 => .array .int
  | 62 => .int
  | 63 => .int
  | 64 => .long
  | 65 => .long
  | 66 => .array .int
  | 67 => .array .boolean
  | _ => .array .boolean
theorem nmX12 : ∀ a, a < 69 → ∀ b, b < 69 → a ≠ b → (TX12 a).2.1 ≠ (TX12 b).2.1 := by decide +kernel
theorem tyX12_ok : ∀ k, k < 69 → parseFieldDescriptor (TX12 k).2.2.1 = some (tyX12 k) := by decide +kernel
abbrev cX12_init : ByteArray := prog_14_method_1_code
def yX12_init : MethodName := ⟨RX12, "<init>", "()V"⟩
abbrev cX12_lies : ByteArray := prog_14_method_2_code
def yX12_lies : MethodName := ⟨RX12, "lies", "(JJJ)Z"⟩
abbrev cX12_has : ByteArray := prog_14_method_3_code
def yX12_has : MethodName := ⟨RX12, "has", "(II)Z"⟩
abbrev cX12_sizeOf : ByteArray := prog_14_method_4_code
def yX12_sizeOf : MethodName := ⟨RX12, "sizeOf", "(I)I"⟩
abbrev cX12_isName : ByteArray := prog_14_method_5_code
def yX12_isName : MethodName := ⟨RX12, "isName", "(I)Z"⟩
abbrev cX12_isOf : ByteArray := prog_14_method_6_code
def yX12_isOf : MethodName := ⟨RX12, "isOf", "(II)Z"⟩
abbrev cX12_isCouple : ByteArray := prog_14_method_7_code
def yX12_isCouple : MethodName := ⟨RX12, "isCouple", "(I)Z"⟩
abbrev cX12_isFont : ByteArray := prog_14_method_8_code
def yX12_isFont : MethodName := ⟨RX12, "isFont", "(I)Z"⟩
abbrev cX12_isYear : ByteArray := prog_14_method_9_code
def yX12_isYear : MethodName := ⟨RX12, "isYear", "(I)Z"⟩
abbrev cX12_name : ByteArray := prog_14_method_10_code
def yX12_name : MethodName := ⟨RX12, "name", "(II)I"⟩
abbrev cX12_couple : ByteArray := prog_14_method_11_code
def yX12_couple : MethodName := ⟨RX12, "couple", "(IIII)I"⟩
abbrev cX12_parent : ByteArray := prog_14_method_12_code
def yX12_parent : MethodName := ⟨RX12, "parent", "(III)Z"⟩
abbrev cX12_christening : ByteArray := prog_14_method_13_code
def yX12_christening : MethodName := ⟨RX12, "christening", "(IIIII)I"⟩
abbrev cX12_died : ByteArray := prog_14_method_14_code
def yX12_died : MethodName := ⟨RX12, "died", "(II)Z"⟩
abbrev cX12_weighs : ByteArray := prog_14_method_15_code
def yX12_weighs : MethodName := ⟨RX12, "weighs", "(II)Z"⟩
abbrev cX12_push : ByteArray := prog_14_method_16_code
def yX12_push : MethodName := ⟨RX12, "push", "(I)V"⟩
abbrev cX12_feed : ByteArray := prog_14_method_17_code
def yX12_feed : MethodName := ⟨RX12, "feed", "(IIIII)I"⟩
abbrev cX12_here : ByteArray := prog_14_method_18_code
def yX12_here : MethodName := ⟨RX12, "here", "()I"⟩
abbrev cX12_wrongs : ByteArray := prog_14_method_19_code
def yX12_wrongs : MethodName := ⟨RX12, "wrongs", "(II)V"⟩
abbrev cX12_isGood : ByteArray := prog_14_method_20_code
def yX12_isGood : MethodName := ⟨RX12, "isGood", "()Z"⟩
abbrev cX12_emit : ByteArray := prog_14_method_21_code
def yX12_emit : MethodName := ⟨RX12, "emit", "(II)V"⟩
abbrev cX12_top : ByteArray := prog_14_method_22_code
def yX12_top : MethodName := ⟨RX12, "top", "()I"⟩
abbrev cX12_puts : ByteArray := prog_14_method_23_code
def yX12_puts : MethodName := ⟨RX12, "puts", "(I)V"⟩
abbrev cX12_opens : ByteArray := prog_14_method_24_code
def yX12_opens : MethodName := ⟨RX12, "opens", "()V"⟩
abbrev cX12_seesDigit : ByteArray := prog_14_method_25_code
def yX12_seesDigit : MethodName := ⟨RX12, "seesDigit", "()Z"⟩
abbrev cX12_reads : ByteArray := prog_14_method_26_code
def yX12_reads : MethodName := ⟨RX12, "reads", "()I"⟩
abbrev cX12_isTimes : ByteArray := prog_14_method_27_code
def yX12_isTimes : MethodName := ⟨RX12, "isTimes", "(I)Z"⟩
abbrev cX12_isPlus : ByteArray := prog_14_method_28_code
def yX12_isPlus : MethodName := ⟨RX12, "isPlus", "(I)Z"⟩
abbrev cX12_isSign : ByteArray := prog_14_method_29_code
def yX12_isSign : MethodName := ⟨RX12, "isSign", "(I)Z"⟩
abbrev cX12_isValue : ByteArray := prog_14_method_30_code
def yX12_isValue : MethodName := ⟨RX12, "isValue", "(I)Z"⟩
abbrev cX12_sums : ByteArray := prog_14_method_31_code
def yX12_sums : MethodName := ⟨RX12, "sums", "(Z)V"⟩
abbrev cX12_joins : ByteArray := prog_14_method_32_code
def yX12_joins : MethodName := ⟨RX12, "joins", "(Z)V"⟩
abbrev cX12_ends : ByteArray := prog_14_method_33_code
def yX12_ends : MethodName := ⟨RX12, "ends", "()V"⟩
abbrev cX12_factor : ByteArray := prog_14_method_34_code
def yX12_factor : MethodName := ⟨RX12, "factor", "()V"⟩
abbrev cX12_goesOn : ByteArray := prog_14_method_35_code
def yX12_goesOn : MethodName := ⟨RX12, "goesOn", "()Z"⟩
abbrev cX12_pieceOfC : ByteArray := prog_14_method_36_code
def yX12_pieceOfC : MethodName := ⟨RX12, "pieceOfC", "()V"⟩
abbrev cX12_goesBehind : ByteArray := prog_14_method_37_code
def yX12_goesBehind : MethodName := ⟨RX12, "goesBehind", "()Z"⟩
abbrev cX12_condition : ByteArray := prog_14_method_38_code
def yX12_condition : MethodName := ⟨RX12, "condition", "()V"⟩
abbrev cX12_isClause : ByteArray := prog_14_method_39_code
def yX12_isClause : MethodName := ⟨RX12, "isClause", "(I)Z"⟩
abbrev cX12_clause : ByteArray := prog_14_method_40_code
def yX12_clause : MethodName := ⟨RX12, "clause", "()V"⟩
abbrev cX12_custom : ByteArray := prog_14_method_41_code
def yX12_custom : MethodName := ⟨RX12, "custom", "(II)I"⟩
abbrev cX12_customs : ByteArray := prog_14_method_42_code
def yX12_customs : MethodName := ⟨RX12, "customs", "(III)Z"⟩
abbrev cX12_canTie : ByteArray := prog_14_method_43_code
def yX12_canTie : MethodName := ⟨RX12, "canTie", "(II)Z"⟩
abbrev cX12_isElder : ByteArray := prog_14_method_44_code
def yX12_isElder : MethodName := ⟨RX12, "isElder", "(II)Z"⟩
abbrev cX12_takes : ByteArray := prog_14_method_45_code
def yX12_takes : MethodName := ⟨RX12, "takes", "(II)V"⟩
abbrev cX12_isGone : ByteArray := prog_14_method_46_code
def yX12_isGone : MethodName := ⟨RX12, "isGone", "(II)Z"⟩
abbrev cX12_canBe : ByteArray := prog_14_method_47_code
def yX12_canBe : MethodName := ⟨RX12, "canBe", "()Z"⟩
abbrev cX12_value : ByteArray := prog_14_method_48_code
def yX12_value : MethodName := ⟨RX12, "value", "(III)I"⟩
abbrev cX12_worked : ByteArray := prog_14_method_49_code
def yX12_worked : MethodName := ⟨RX12, "worked", "(III)I"⟩
abbrev cX12_does : ByteArray := prog_14_method_50_code
def yX12_does : MethodName := ⟨RX12, "does", "(II)V"⟩
abbrev cX12_holds : ByteArray := prog_14_method_51_code
def yX12_holds : MethodName := ⟨RX12, "holds", "(III)Z"⟩
abbrev cX12_deadOf : ByteArray := prog_14_method_52_code
def yX12_deadOf : MethodName := ⟨RX12, "deadOf", "(I)I"⟩
abbrev cX12_isThere : ByteArray := prog_14_method_53_code
def yX12_isThere : MethodName := ⟨RX12, "isThere", "(II)Z"⟩
abbrev cX12_letterOf : ByteArray := prog_14_method_54_code
def yX12_letterOf : MethodName := ⟨RX12, "letterOf", "(II)I"⟩
abbrev cX12_parentBy : ByteArray := prog_14_method_55_code
def yX12_parentBy : MethodName := ⟨RX12, "parentBy", "(I)I"⟩
abbrev cX12_told : ByteArray := prog_14_method_56_code
def yX12_told : MethodName := ⟨RX12, "told", "(II)I"⟩
abbrev cX12_pointsBy : ByteArray := prog_14_method_57_code
def yX12_pointsBy : MethodName := ⟨RX12, "pointsBy", "(II)I"⟩
abbrev cX12_isBy : ByteArray := prog_14_method_58_code
def yX12_isBy : MethodName := ⟨RX12, "isBy", "(II)Z"⟩
abbrev cX12_brings : ByteArray := prog_14_method_59_code
def yX12_brings : MethodName := ⟨RX12, "brings", "(II)I"⟩
abbrev cX12_bestNames : ByteArray := prog_14_method_60_code
def yX12_bestNames : MethodName := ⟨RX12, "bestNames", "(I)I"⟩
abbrev cX12_lowestOf : ByteArray := prog_14_method_61_code
def yX12_lowestOf : MethodName := ⟨RX12, "lowestOf", "(I)I"⟩
abbrev cX12_asks : ByteArray := prog_14_method_62_code
def yX12_asks : MethodName := ⟨RX12, "asks", "()V"⟩
abbrev cX12_pointsOf : ByteArray := prog_14_method_63_code
def yX12_pointsOf : MethodName := ⟨RX12, "pointsOf", "(II)I"⟩
abbrev cX12_canFamily : ByteArray := prog_14_method_64_code
def yX12_canFamily : MethodName := ⟨RX12, "canFamily", "(II)Z"⟩
abbrev cX12_isSet : ByteArray := prog_14_method_65_code
def yX12_isSet : MethodName := ⟨RX12, "isSet", "(I)Z"⟩
abbrev cX12_tie : ByteArray := prog_14_method_66_code
def yX12_tie : MethodName := ⟨RX12, "tie", "(II)I"⟩
abbrev cX12_family : ByteArray := prog_14_method_67_code
def yX12_family : MethodName := ⟨RX12, "family", "(II)I"⟩
abbrev cX12_points : ByteArray := prog_14_method_68_code
def yX12_points : MethodName := ⟨RX12, "points", "(II)I"⟩
abbrev cX12_placeOf : ByteArray := prog_14_method_69_code
def yX12_placeOf : MethodName := ⟨RX12, "placeOf", "(III)I"⟩
abbrev cX12_by : ByteArray := prog_14_method_70_code
def yX12_by : MethodName := ⟨RX12, "by", "(III)I"⟩
abbrev cX12_should : ByteArray := prog_14_method_71_code
def yX12_should : MethodName := ⟨RX12, "should", "(III)I"⟩
abbrev cX12_families : ByteArray := prog_14_method_72_code
def yX12_families : MethodName := ⟨RX12, "families", "()V"⟩
abbrev cX12_comes : ByteArray := prog_14_method_73_code
def yX12_comes : MethodName := ⟨RX12, "comes", "(IIJ)V"⟩
abbrev cX12_barred : ByteArray := prog_14_method_74_code
def yX12_barred : MethodName := ⟨RX12, "barred", "(I)I"⟩
abbrev cX12_works : ByteArray := prog_14_method_75_code
def yX12_works : MethodName := ⟨RX12, "works", "()V"⟩
abbrev cX12_allows : ByteArray := prog_14_method_76_code
def yX12_allows : MethodName := ⟨RX12, "allows", "()V"⟩
abbrev cX12_finds : ByteArray := prog_14_method_77_code
def yX12_finds : MethodName := ⟨RX12, "finds", "()V"⟩
abbrev cX12_best : ByteArray := prog_14_method_78_code
def yX12_best : MethodName := ⟨RX12, "best", "(I)I"⟩
abbrev cX12_ways : ByteArray := prog_14_method_79_code
def yX12_ways : MethodName := ⟨RX12, "ways", "(I)J"⟩
abbrev cX12_sure : ByteArray := prog_14_method_80_code
def yX12_sure : MethodName := ⟨RX12, "sure", "(II)I"⟩
abbrev cX12_setOf : ByteArray := prog_14_method_81_code
def yX12_setOf : MethodName := ⟨RX12, "setOf", "(I)I"⟩
abbrev cX12_grand : ByteArray := prog_14_method_82_code
def yX12_grand : MethodName := ⟨RX12, "grand", "(II)I"⟩
abbrev cX12_cellOf : ByteArray := prog_14_method_83_code
def yX12_cellOf : MethodName := ⟨RX12, "cellOf", "(III)I"⟩
abbrev cX12_needs : ByteArray := prog_14_method_84_code
def yX12_needs : MethodName := ⟨RX12, "needs", "(II)V"⟩
abbrev cX12_must : ByteArray := prog_14_method_85_code
def yX12_must : MethodName := ⟨RX12, "must", "(III)I"⟩
abbrev cX12_wayOf : ByteArray := prog_14_method_86_code
def yX12_wayOf : MethodName := ⟨RX12, "wayOf", "()I"⟩
abbrev cX12_setBy : ByteArray := prog_14_method_87_code
def yX12_setBy : MethodName := ⟨RX12, "setBy", "(I)I"⟩
abbrev cX12_wayPoints : ByteArray := prog_14_method_88_code
def yX12_wayPoints : MethodName := ⟨RX12, "wayPoints", "()I"⟩
abbrev cX12_judge : ByteArray := prog_14_method_89_code
def yX12_judge : MethodName := ⟨RX12, "judge", "()I"⟩
abbrev cX12_learnt : ByteArray := prog_14_method_90_code
def yX12_learnt : MethodName := ⟨RX12, "learnt", "(III)I"⟩
abbrev cX12_little : ByteArray := prog_14_method_91_code
def yX12_little : MethodName := ⟨RX12, "little", "(I)I"⟩
abbrev cX12_check : ByteArray := prog_14_method_92_code
def yX12_check : MethodName := ⟨RX12, "check", "()I"⟩
abbrev cX12_look : ByteArray := prog_14_method_93_code
def yX12_look : MethodName := ⟨RX12, "look", "(II)I"⟩
abbrev cX12_count : ByteArray := prog_14_method_94_code
def yX12_count : MethodName := ⟨RX12, "count", "(I)I"⟩
abbrev vwCl : List vw_C := [(RX0, TX0, 5), (RX1, TX1, 6), (RX2, TX2, 7), (RX3, TX3, 9), (RX4, TX4, 8), (RX5, TX5, 3), (RX6, TX6, 5), (RX7, TX7, 3), (RX8, TX8, 2), (RX9, TX9, 4), (RX10, TX10, 11), (RX11, TX11, 9), (RX12, TX12, 69)]
def fk (c : Nat) : List Nat := match c with
  | 0 => [2, 2, 2, 0, 0]
  | 1 => [2, 2, 2, 2, 2, 0]
  | 2 => [2, 2, 2, 2, 2, 0, 0]
  | 3 => [2, 2, 2, 2, 2, 2, 2, 0, 0]
  | 4 => [2, 2, 2, 2, 2, 2, 2, 0]
  | 5 => [2, 2, 0]
  | 6 => [2, 2, 0, 0, 0]
  | 7 => [2, 2, 2]
  | 8 => [2, 0]
  | 9 => [2, 0, 0, 0]
  | 10 => [2, 2, 2, 2, 2, 2, 2, 2, 2, 2, 0]
  | 11 => [2, 2, 2, 2, 2, 2, 2, 2, 2]
  | 12 => [2, 0, 0, 0, 0, 0, 0, 0, 0, 0, 2, 2, 2, 2, 2, 2, 2, 2, 2, 2, 2, 2, 2, 0, 2, 2, 2, 2, 2, 2, 2, 2, 2, 2, 2, 0, 0, 0, 0, 0, 0, 0, 0, 0, 2, 0, 0, 2, 2, 2, 2, 2, 2, 2, 2, 2, 2, 2, 2, 2, 2, 2, 0, 0, 1, 1, 2, 2, 2]
  | _ => []
def TB : List Cond := lw_tbl.filter goodWord
theorem TB_good : ∀ w ∈ TB, goodWord w = true := fun w h => (List.mem_filter.mp h).2
theorem TB_in : ∀ w ∈ TB, w ∈ lw_tbl := fun w h => (List.mem_filter.mp h).1
theorem TB_mem {w : Cond} (i : Nat) (h : lw_tbl[i]? = some w) (hg : goodWord w = true) : w ∈ TB := List.mem_filter.mpr ⟨List.mem_of_getElem? h, hg⟩
theorem TB_app {w : Cond} (i : Nat) (h : tables_1[i]? = some w) (hg : goodWord w = true) : w ∈ TB := List.mem_filter.mpr ⟨List.mem_append_right _ (List.mem_of_getElem? h), hg⟩
theorem TB_ps (ws : List Cond) (ps : List Nat) (hp : ws = ps.filterMap (fun i => lw_tbl[i]?)) (hg : ws.all goodWord = true) : ∀ w ∈ ws, w ∈ TB := by
  intro w hw
  have h1 := List.all_eq_true.mp hg w hw
  rw [hp] at hw
  obtain ⟨i, -, hi⟩ := List.mem_filterMap.mp hw
  exact TB_mem i hi h1
theorem inX0 : ∀ w ∈ u_ws RX0 TX0 5, w ∈ TB := TB_ps _ [245, 247, 249, 251, 253] (by decide +kernel) (by decide +kernel)
theorem inX1 : ∀ w ∈ u_ws RX1 TX1 6, w ∈ TB := TB_ps _ [163, 165, 167, 169, 171, 173] (by decide +kernel) (by decide +kernel)
theorem inX2 : ∀ w ∈ u_ws RX2 TX2 7, w ∈ TB := TB_ps _ [293, 295, 297, 299, 301, 303, 305] (by decide +kernel) (by decide +kernel)
theorem inX3 : ∀ w ∈ u_ws RX3 TX3 9, w ∈ TB := TB_ps _ [373, 375, 377, 379, 381, 383, 385, 387, 389] (by decide +kernel) (by decide +kernel)
theorem inX4 : ∀ w ∈ u_ws RX4 TX4 8, w ∈ TB := TB_ps _ [208, 210, 212, 214, 216, 218, 220, 222] (by decide +kernel) (by decide +kernel)
theorem inX5 : ∀ w ∈ u_ws RX5 TX5 3, w ∈ TB := TB_ps _ [133, 135, 137] (by decide +kernel) (by decide +kernel)
theorem inX6 : ∀ w ∈ u_ws RX6 TX6 5, w ∈ TB := TB_ps _ [314, 316, 318, 320, 322] (by decide +kernel) (by decide +kernel)
theorem inX7 : ∀ w ∈ u_ws RX7 TX7 3, w ∈ TB := TB_ps _ [402, 404, 406] (by decide +kernel) (by decide +kernel)
theorem inX8 : ∀ w ∈ u_ws RX8 TX8 2, w ∈ TB := TB_ps _ [265, 267] (by decide +kernel) (by decide +kernel)
theorem inX9 : ∀ w ∈ u_ws RX9 TX9 4, w ∈ TB := TB_ps _ [338, 340, 342, 344] (by decide +kernel) (by decide +kernel)
theorem inX10 : ∀ w ∈ u_ws RX10 TX10 11, w ∈ TB := TB_ps _ [429, 431, 433, 435, 437, 439, 441, 443, 445, 447, 449] (by decide +kernel) (by decide +kernel)
theorem inX11 : ∀ w ∈ u_ws RX11 TX11 9, w ∈ TB := TB_ps _ [463, 465, 467, 469, 471, 473, 475, 477, 479] (by decide +kernel) (by decide +kernel)
theorem inX12 : ∀ w ∈ u_ws RX12 TX12 69, w ∈ TB := TB_ps _ [1134, 1136, 1138, 1140, 1142, 1144, 1146, 1148, 1150, 1152, 1154, 1156, 1158, 1160, 1162, 1164, 1166, 1168, 1170, 1172, 1174, 1176, 1178, 1180, 1182, 1184, 1186, 1188, 1190, 1192, 1194, 1196, 1198, 1200, 1202, 1204, 1206, 1208, 1210, 1212, 1214, 1216, 1218, 1220, 1222, 1224, 1226, 1228, 1230, 1232, 1234, 1236, 1238, 1240, 1242, 1244, 1246, 1248, 1250, 1252, 1254, 1256, 1258, 1260, 1262, 1264, 1266, 1268, 1270] (by decide +kernel) (by decide +kernel)
theorem knX11 : (.initialized "FontList" : Cond) ∈ TB := TB_mem 85 (by decide +kernel) (by decide +kernel)
theorem knX0 : (.initialized "FontList$Books" : Cond) ∈ TB := TB_mem 86 (by decide +kernel) (by decide +kernel)
theorem knX5 : (.initialized "FontList$Names" : Cond) ∈ TB := TB_mem 87 (by decide +kernel) (by decide +kernel)
theorem knX1 : (.initialized "FontList$Couples" : Cond) ∈ TB := TB_mem 88 (by decide +kernel) (by decide +kernel)
theorem knX4 : (.initialized "FontList$Fonts" : Cond) ∈ TB := TB_mem 89 (by decide +kernel) (by decide +kernel)
theorem knX8 : (.initialized "FontList$Tape" : Cond) ∈ TB := TB_mem 90 (by decide +kernel) (by decide +kernel)
theorem knX6 : (.initialized "FontList$Reader" : Cond) ∈ TB := TB_mem 91 (by decide +kernel) (by decide +kernel)
theorem knX2 : (.initialized "FontList$Custom" : Cond) ∈ TB := TB_mem 92 (by decide +kernel) (by decide +kernel)
theorem knX9 : (.initialized "FontList$Usage" : Cond) ∈ TB := TB_mem 93 (by decide +kernel) (by decide +kernel)
theorem knX3 : (.initialized "FontList$Family" : Cond) ∈ TB := TB_mem 94 (by decide +kernel) (by decide +kernel)
theorem knX7 : (.initialized "FontList$Row" : Cond) ∈ TB := TB_mem 96 (by decide +kernel) (by decide +kernel)
theorem knX10 : (.initialized "FontList$Ways" : Cond) ∈ TB := TB_mem 97 (by decide +kernel) (by decide +kernel)
theorem knX12 : (.initialized "FontListModel" : Cond) ∈ TB := TB_mem 98 (by decide +kernel) (by decide +kernel)
theorem klL_7 : (.classLink "FontListLaw" 7 "FontList" : Cond) ∈ TB := TB_mem 105 (by decide +kernel) (by decide +kernel)
theorem kaX11 : (.instantiable "FontList" 9 : Cond) ∈ TB := TB_mem 106 (by decide +kernel) (by decide +kernel)
theorem kmL_9 : (.methodLink "FontListLaw" 9 ⟨"FontList", "<init>", "()V"⟩ : Cond) ∈ TB := TB_mem 107 (by decide +kernel) (by decide +kernel)
theorem kiX11_init : (.instanceMethod ⟨"FontList", "<init>", "()V"⟩ : Cond) ∈ TB := TB_mem 108 (by decide +kernel) (by decide +kernel)
theorem kcX11_init : (.code ⟨"FontList", "<init>", "()V"⟩ prog_1_method_1_code 2 (Option.none : Option Jvm.ClassFile.FieldType) : Cond) ∈ TB := TB_mem 109 (by decide +kernel) (by decide +kernel)
theorem km11_1 : (.methodLink "FontList" 1 ⟨"java/lang/Object", "<init>", "()V"⟩ : Cond) ∈ TB := TB_mem 110 (by decide +kernel) (by decide +kernel)
theorem kl11_7 : (.classLink "FontList" 7 "FontList$Books" : Cond) ∈ TB := TB_mem 113 (by decide +kernel) (by decide +kernel)
theorem kaX0 : (.instantiable "FontList$Books" 5 : Cond) ∈ TB := TB_mem 114 (by decide +kernel) (by decide +kernel)
theorem kiX0_init : (.instanceMethod ⟨"FontList$Books", "<init>", "()V"⟩ : Cond) ∈ TB := TB_mem 116 (by decide +kernel) (by decide +kernel)
theorem kcX0_init : (.code ⟨"FontList$Books", "<init>", "()V"⟩ prog_2_method_1_code 1 (Option.none : Option Jvm.ClassFile.FieldType) : Cond) ∈ TB := TB_mem 117 (by decide +kernel) (by decide +kernel)
theorem km0_3 : (.methodLink "FontList$Books" 3 ⟨"java/lang/Object", "<init>", "()V"⟩ : Cond) ∈ TB := TB_mem 118 (by decide +kernel) (by decide +kernel)
theorem kl0_9 : (.classLink "FontList$Books" 9 "FontList$Names" : Cond) ∈ TB := TB_mem 119 (by decide +kernel) (by decide +kernel)
theorem kaX5 : (.instantiable "FontList$Names" 3 : Cond) ∈ TB := TB_mem 120 (by decide +kernel) (by decide +kernel)
theorem kiX5_init : (.instanceMethod ⟨"FontList$Names", "<init>", "()V"⟩ : Cond) ∈ TB := TB_mem 122 (by decide +kernel) (by decide +kernel)
theorem kcX5_init : (.code ⟨"FontList$Names", "<init>", "()V"⟩ prog_7_method_1_code 1 (Option.none : Option Jvm.ClassFile.FieldType) : Cond) ∈ TB := TB_mem 123 (by decide +kernel) (by decide +kernel)
theorem km5_3 : (.methodLink "FontList$Names" 3 ⟨"java/lang/Object", "<init>", "()V"⟩ : Cond) ∈ TB := TB_mem 124 (by decide +kernel) (by decide +kernel)
theorem kf5_9 : (.fieldLink "FontList$Names" 9 "FontList$Names" "sex" "[I" : Cond) ∈ TB := TB_mem 125 (by decide +kernel) (by decide +kernel)
theorem kf11_107 : (.fieldLink "FontList" 107 "FontList$Names" "sex" "[I" : Cond) ∈ TB := TB_mem 126 (by decide +kernel) (by decide +kernel)
theorem kf3_140 : (.fieldLink "FontList$Family" 140 "FontList$Names" "sex" "[I" : Cond) ∈ TB := TB_mem 127 (by decide +kernel) (by decide +kernel)
theorem kf5_15 : (.fieldLink "FontList$Names" 15 "FontList$Names" "says" "[I" : Cond) ∈ TB := TB_mem 128 (by decide +kernel) (by decide +kernel)
theorem kf3_154 : (.fieldLink "FontList$Family" 154 "FontList$Names" "says" "[I" : Cond) ∈ TB := TB_mem 129 (by decide +kernel) (by decide +kernel)
theorem kf5_18 : (.fieldLink "FontList$Names" 18 "FontList$Names" "size" "I" : Cond) ∈ TB := TB_mem 130 (by decide +kernel) (by decide +kernel)
theorem kf3_160 : (.fieldLink "FontList$Family" 160 "FontList$Names" "size" "I" : Cond) ∈ TB := TB_mem 131 (by decide +kernel) (by decide +kernel)
theorem kf11_284 : (.fieldLink "FontList" 284 "FontList$Names" "size" "I" : Cond) ∈ TB := TB_mem 132 (by decide +kernel) (by decide +kernel)
theorem ky_int : (.arrayClass .int : Cond) ∈ TB := TB_mem 140 (by decide +kernel) (by decide +kernel)
theorem kl0_18 : (.classLink "FontList$Books" 18 "FontList$Couples" : Cond) ∈ TB := TB_mem 141 (by decide +kernel) (by decide +kernel)
theorem kaX1 : (.instantiable "FontList$Couples" 6 : Cond) ∈ TB := TB_mem 142 (by decide +kernel) (by decide +kernel)
theorem kiX1_init : (.instanceMethod ⟨"FontList$Couples", "<init>", "()V"⟩ : Cond) ∈ TB := TB_mem 144 (by decide +kernel) (by decide +kernel)
theorem kcX1_init : (.code ⟨"FontList$Couples", "<init>", "()V"⟩ prog_3_method_1_code 1 (Option.none : Option Jvm.ClassFile.FieldType) : Cond) ∈ TB := TB_mem 145 (by decide +kernel) (by decide +kernel)
theorem km1_3 : (.methodLink "FontList$Couples" 3 ⟨"java/lang/Object", "<init>", "()V"⟩ : Cond) ∈ TB := TB_mem 146 (by decide +kernel) (by decide +kernel)
theorem kf1_9 : (.fieldLink "FontList$Couples" 9 "FontList$Couples" "husband" "[I" : Cond) ∈ TB := TB_mem 147 (by decide +kernel) (by decide +kernel)
theorem kf0_50 : (.fieldLink "FontList$Books" 50 "FontList$Couples" "husband" "[I" : Cond) ∈ TB := TB_mem 148 (by decide +kernel) (by decide +kernel)
theorem kf3_148 : (.fieldLink "FontList$Family" 148 "FontList$Couples" "husband" "[I" : Cond) ∈ TB := TB_mem 149 (by decide +kernel) (by decide +kernel)
theorem kf1_15 : (.fieldLink "FontList$Couples" 15 "FontList$Couples" "wife" "[I" : Cond) ∈ TB := TB_mem 150 (by decide +kernel) (by decide +kernel)
theorem kf0_56 : (.fieldLink "FontList$Books" 56 "FontList$Couples" "wife" "[I" : Cond) ∈ TB := TB_mem 151 (by decide +kernel) (by decide +kernel)
theorem kf3_151 : (.fieldLink "FontList$Family" 151 "FontList$Couples" "wife" "[I" : Cond) ∈ TB := TB_mem 152 (by decide +kernel) (by decide +kernel)
theorem kf1_18 : (.fieldLink "FontList$Couples" 18 "FontList$Couples" "wed" "[I" : Cond) ∈ TB := TB_mem 153 (by decide +kernel) (by decide +kernel)
theorem kf0_62 : (.fieldLink "FontList$Books" 62 "FontList$Couples" "wed" "[I" : Cond) ∈ TB := TB_mem 154 (by decide +kernel) (by decide +kernel)
theorem kf3_127 : (.fieldLink "FontList$Family" 127 "FontList$Couples" "wed" "[I" : Cond) ∈ TB := TB_mem 155 (by decide +kernel) (by decide +kernel)
theorem kf1_21 : (.fieldLink "FontList$Couples" 21 "FontList$Couples" "last" "[I" : Cond) ∈ TB := TB_mem 156 (by decide +kernel) (by decide +kernel)
theorem kf0_65 : (.fieldLink "FontList$Books" 65 "FontList$Couples" "last" "[I" : Cond) ∈ TB := TB_mem 157 (by decide +kernel) (by decide +kernel)
theorem kf1_24 : (.fieldLink "FontList$Couples" 24 "FontList$Couples" "parents" "[I" : Cond) ∈ TB := TB_mem 158 (by decide +kernel) (by decide +kernel)
theorem kf1_27 : (.fieldLink "FontList$Couples" 27 "FontList$Couples" "size" "I" : Cond) ∈ TB := TB_mem 159 (by decide +kernel) (by decide +kernel)
theorem kf7_63 : (.fieldLink "FontList$Row" 63 "FontList$Couples" "size" "I" : Cond) ∈ TB := TB_mem 160 (by decide +kernel) (by decide +kernel)
theorem kf10_77 : (.fieldLink "FontList$Ways" 77 "FontList$Couples" "size" "I" : Cond) ∈ TB := TB_mem 161 (by decide +kernel) (by decide +kernel)
theorem kf11_285 : (.fieldLink "FontList" 285 "FontList$Couples" "size" "I" : Cond) ∈ TB := TB_mem 162 (by decide +kernel) (by decide +kernel)
theorem kl0_25 : (.classLink "FontList$Books" 25 "FontList$Fonts" : Cond) ∈ TB := TB_mem 176 (by decide +kernel) (by decide +kernel)
theorem kaX4 : (.instantiable "FontList$Fonts" 8 : Cond) ∈ TB := TB_mem 177 (by decide +kernel) (by decide +kernel)
theorem kiX4_init : (.instanceMethod ⟨"FontList$Fonts", "<init>", "()V"⟩ : Cond) ∈ TB := TB_mem 179 (by decide +kernel) (by decide +kernel)
theorem kcX4_init : (.code ⟨"FontList$Fonts", "<init>", "()V"⟩ prog_6_method_1_code 1 (Option.none : Option Jvm.ClassFile.FieldType) : Cond) ∈ TB := TB_mem 180 (by decide +kernel) (by decide +kernel)
theorem km4_3 : (.methodLink "FontList$Fonts" 3 ⟨"java/lang/Object", "<init>", "()V"⟩ : Cond) ∈ TB := TB_mem 181 (by decide +kernel) (by decide +kernel)
theorem kf4_9 : (.fieldLink "FontList$Fonts" 9 "FontList$Fonts" "name" "[I" : Cond) ∈ TB := TB_mem 182 (by decide +kernel) (by decide +kernel)
theorem kf3_72 : (.fieldLink "FontList$Family" 72 "FontList$Fonts" "name" "[I" : Cond) ∈ TB := TB_mem 183 (by decide +kernel) (by decide +kernel)
theorem kf11_272 : (.fieldLink "FontList" 272 "FontList$Fonts" "name" "[I" : Cond) ∈ TB := TB_mem 184 (by decide +kernel) (by decide +kernel)
theorem kf4_15 : (.fieldLink "FontList$Fonts" 15 "FontList$Fonts" "year" "[I" : Cond) ∈ TB := TB_mem 185 (by decide +kernel) (by decide +kernel)
theorem kf3_69 : (.fieldLink "FontList$Family" 69 "FontList$Fonts" "year" "[I" : Cond) ∈ TB := TB_mem 186 (by decide +kernel) (by decide +kernel)
theorem kf0_59 : (.fieldLink "FontList$Books" 59 "FontList$Fonts" "year" "[I" : Cond) ∈ TB := TB_mem 187 (by decide +kernel) (by decide +kernel)
theorem kf11_121 : (.fieldLink "FontList" 121 "FontList$Fonts" "year" "[I" : Cond) ∈ TB := TB_mem 188 (by decide +kernel) (by decide +kernel)
theorem kf4_18 : (.fieldLink "FontList$Fonts" 18 "FontList$Fonts" "father" "[I" : Cond) ∈ TB := TB_mem 189 (by decide +kernel) (by decide +kernel)
theorem kf0_46 : (.fieldLink "FontList$Books" 46 "FontList$Fonts" "father" "[I" : Cond) ∈ TB := TB_mem 190 (by decide +kernel) (by decide +kernel)
theorem kf11_275 : (.fieldLink "FontList" 275 "FontList$Fonts" "father" "[I" : Cond) ∈ TB := TB_mem 191 (by decide +kernel) (by decide +kernel)
theorem kf4_21 : (.fieldLink "FontList$Fonts" 21 "FontList$Fonts" "mother" "[I" : Cond) ∈ TB := TB_mem 192 (by decide +kernel) (by decide +kernel)
theorem kf0_53 : (.fieldLink "FontList$Books" 53 "FontList$Fonts" "mother" "[I" : Cond) ∈ TB := TB_mem 193 (by decide +kernel) (by decide +kernel)
theorem kf11_278 : (.fieldLink "FontList" 278 "FontList$Fonts" "mother" "[I" : Cond) ∈ TB := TB_mem 194 (by decide +kernel) (by decide +kernel)
theorem kf4_24 : (.fieldLink "FontList$Fonts" 24 "FontList$Fonts" "sponsor" "[I" : Cond) ∈ TB := TB_mem 195 (by decide +kernel) (by decide +kernel)
theorem kf3_133 : (.fieldLink "FontList$Family" 133 "FontList$Fonts" "sponsor" "[I" : Cond) ∈ TB := TB_mem 196 (by decide +kernel) (by decide +kernel)
theorem kf11_281 : (.fieldLink "FontList" 281 "FontList$Fonts" "sponsor" "[I" : Cond) ∈ TB := TB_mem 197 (by decide +kernel) (by decide +kernel)
theorem kf4_27 : (.fieldLink "FontList$Fonts" 27 "FontList$Fonts" "gone" "[I" : Cond) ∈ TB := TB_mem 198 (by decide +kernel) (by decide +kernel)
theorem kf11_124 : (.fieldLink "FontList" 124 "FontList$Fonts" "gone" "[I" : Cond) ∈ TB := TB_mem 199 (by decide +kernel) (by decide +kernel)
theorem kf4_30 : (.fieldLink "FontList$Fonts" 30 "FontList$Fonts" "order" "[I" : Cond) ∈ TB := TB_mem 200 (by decide +kernel) (by decide +kernel)
theorem kf3_58 : (.fieldLink "FontList$Family" 58 "FontList$Fonts" "order" "[I" : Cond) ∈ TB := TB_mem 201 (by decide +kernel) (by decide +kernel)
theorem kf4_33 : (.fieldLink "FontList$Fonts" 33 "FontList$Fonts" "size" "I" : Cond) ∈ TB := TB_mem 202 (by decide +kernel) (by decide +kernel)
theorem kf3_55 : (.fieldLink "FontList$Family" 55 "FontList$Fonts" "size" "I" : Cond) ∈ TB := TB_mem 203 (by decide +kernel) (by decide +kernel)
theorem kf0_43 : (.fieldLink "FontList$Books" 43 "FontList$Fonts" "size" "I" : Cond) ∈ TB := TB_mem 204 (by decide +kernel) (by decide +kernel)
theorem kf7_29 : (.fieldLink "FontList$Row" 29 "FontList$Fonts" "size" "I" : Cond) ∈ TB := TB_mem 205 (by decide +kernel) (by decide +kernel)
theorem kf10_59 : (.fieldLink "FontList$Ways" 59 "FontList$Fonts" "size" "I" : Cond) ∈ TB := TB_mem 206 (by decide +kernel) (by decide +kernel)
theorem kf11_240 : (.fieldLink "FontList" 240 "FontList$Fonts" "size" "I" : Cond) ∈ TB := TB_mem 207 (by decide +kernel) (by decide +kernel)
theorem kf0_12 : (.fieldLink "FontList$Books" 12 "FontList$Books" "names" "LFontList$Names;" : Cond) ∈ TB := TB_mem 225 (by decide +kernel) (by decide +kernel)
theorem kf11_74 : (.fieldLink "FontList" 74 "FontList$Books" "names" "LFontList$Names;" : Cond) ∈ TB := TB_mem 226 (by decide +kernel) (by decide +kernel)
theorem kf3_136 : (.fieldLink "FontList$Family" 136 "FontList$Books" "names" "LFontList$Names;" : Cond) ∈ TB := TB_mem 227 (by decide +kernel) (by decide +kernel)
theorem kf0_21 : (.fieldLink "FontList$Books" 21 "FontList$Books" "couples" "LFontList$Couples;" : Cond) ∈ TB := TB_mem 228 (by decide +kernel) (by decide +kernel)
theorem kf7_41 : (.fieldLink "FontList$Row" 41 "FontList$Books" "couples" "LFontList$Couples;" : Cond) ∈ TB := TB_mem 229 (by decide +kernel) (by decide +kernel)
theorem kf11_91 : (.fieldLink "FontList" 91 "FontList$Books" "couples" "LFontList$Couples;" : Cond) ∈ TB := TB_mem 230 (by decide +kernel) (by decide +kernel)
theorem kf10_73 : (.fieldLink "FontList$Ways" 73 "FontList$Books" "couples" "LFontList$Couples;" : Cond) ∈ TB := TB_mem 231 (by decide +kernel) (by decide +kernel)
theorem kf3_109 : (.fieldLink "FontList$Family" 109 "FontList$Books" "couples" "LFontList$Couples;" : Cond) ∈ TB := TB_mem 232 (by decide +kernel) (by decide +kernel)
theorem kf0_28 : (.fieldLink "FontList$Books" 28 "FontList$Books" "fonts" "LFontList$Fonts;" : Cond) ∈ TB := TB_mem 233 (by decide +kernel) (by decide +kernel)
theorem kf3_49 : (.fieldLink "FontList$Family" 49 "FontList$Books" "fonts" "LFontList$Fonts;" : Cond) ∈ TB := TB_mem 234 (by decide +kernel) (by decide +kernel)
theorem kf7_23 : (.fieldLink "FontList$Row" 23 "FontList$Books" "fonts" "LFontList$Fonts;" : Cond) ∈ TB := TB_mem 235 (by decide +kernel) (by decide +kernel)
theorem kf10_53 : (.fieldLink "FontList$Ways" 53 "FontList$Books" "fonts" "LFontList$Fonts;" : Cond) ∈ TB := TB_mem 236 (by decide +kernel) (by decide +kernel)
theorem kf11_111 : (.fieldLink "FontList" 111 "FontList$Books" "fonts" "LFontList$Fonts;" : Cond) ∈ TB := TB_mem 237 (by decide +kernel) (by decide +kernel)
theorem kf0_32 : (.fieldLink "FontList$Books" 32 "FontList$Books" "loss" "I" : Cond) ∈ TB := TB_mem 238 (by decide +kernel) (by decide +kernel)
theorem kf11_127 : (.fieldLink "FontList" 127 "FontList$Books" "loss" "I" : Cond) ∈ TB := TB_mem 239 (by decide +kernel) (by decide +kernel)
theorem kf3_157 : (.fieldLink "FontList$Family" 157 "FontList$Books" "loss" "I" : Cond) ∈ TB := TB_mem 240 (by decide +kernel) (by decide +kernel)
theorem kf0_36 : (.fieldLink "FontList$Books" 36 "FontList$Books" "alone" "I" : Cond) ∈ TB := TB_mem 241 (by decide +kernel) (by decide +kernel)
theorem kf7_70 : (.fieldLink "FontList$Row" 70 "FontList$Books" "alone" "I" : Cond) ∈ TB := TB_mem 242 (by decide +kernel) (by decide +kernel)
theorem kf10_92 : (.fieldLink "FontList$Ways" 92 "FontList$Books" "alone" "I" : Cond) ∈ TB := TB_mem 243 (by decide +kernel) (by decide +kernel)
theorem kf11_131 : (.fieldLink "FontList" 131 "FontList$Books" "alone" "I" : Cond) ∈ TB := TB_mem 244 (by decide +kernel) (by decide +kernel)
theorem kl11_16 : (.classLink "FontList" 16 "FontList$Tape" : Cond) ∈ TB := TB_mem 256 (by decide +kernel) (by decide +kernel)
theorem kaX8 : (.instantiable "FontList$Tape" 2 : Cond) ∈ TB := TB_mem 257 (by decide +kernel) (by decide +kernel)
theorem kiX8_init : (.instanceMethod ⟨"FontList$Tape", "<init>", "()V"⟩ : Cond) ∈ TB := TB_mem 259 (by decide +kernel) (by decide +kernel)
theorem kcX8_init : (.code ⟨"FontList$Tape", "<init>", "()V"⟩ prog_10_method_1_code 1 (Option.none : Option Jvm.ClassFile.FieldType) : Cond) ∈ TB := TB_mem 260 (by decide +kernel) (by decide +kernel)
theorem km8_3 : (.methodLink "FontList$Tape" 3 ⟨"java/lang/Object", "<init>", "()V"⟩ : Cond) ∈ TB := TB_mem 261 (by decide +kernel) (by decide +kernel)
theorem kf8_11 : (.fieldLink "FontList$Tape" 11 "FontList$Tape" "bytes" "[I" : Cond) ∈ TB := TB_mem 262 (by decide +kernel) (by decide +kernel)
theorem kf8_15 : (.fieldLink "FontList$Tape" 15 "FontList$Tape" "size" "I" : Cond) ∈ TB := TB_mem 263 (by decide +kernel) (by decide +kernel)
theorem kf11_142 : (.fieldLink "FontList" 142 "FontList$Tape" "size" "I" : Cond) ∈ TB := TB_mem 264 (by decide +kernel) (by decide +kernel)
theorem kl11_23 : (.classLink "FontList" 23 "FontList$Custom" : Cond) ∈ TB := TB_mem 270 (by decide +kernel) (by decide +kernel)
theorem kl11_29 : (.classLink "FontList" 29 "FontList$Reader" : Cond) ∈ TB := TB_mem 272 (by decide +kernel) (by decide +kernel)
theorem kaX6 : (.instantiable "FontList$Reader" 5 : Cond) ∈ TB := TB_mem 273 (by decide +kernel) (by decide +kernel)
theorem kiX6_init : (.instanceMethod ⟨"FontList$Reader", "<init>", "()V"⟩ : Cond) ∈ TB := TB_mem 275 (by decide +kernel) (by decide +kernel)
theorem kcX6_init : (.code ⟨"FontList$Reader", "<init>", "()V"⟩ prog_8_method_1_code 1 (Option.none : Option Jvm.ClassFile.FieldType) : Cond) ∈ TB := TB_mem 276 (by decide +kernel) (by decide +kernel)
theorem km6_3 : (.methodLink "FontList$Reader" 3 ⟨"java/lang/Object", "<init>", "()V"⟩ : Cond) ∈ TB := TB_mem 277 (by decide +kernel) (by decide +kernel)
theorem kl6_15 : (.classLink "FontList$Reader" 15 "FontList$Custom" : Cond) ∈ TB := TB_mem 278 (by decide +kernel) (by decide +kernel)
theorem kaX2 : (.instantiable "FontList$Custom" 7 : Cond) ∈ TB := TB_mem 279 (by decide +kernel) (by decide +kernel)
theorem kiX2_init : (.instanceMethod ⟨"FontList$Custom", "<init>", "()V"⟩ : Cond) ∈ TB := TB_mem 281 (by decide +kernel) (by decide +kernel)
theorem kcX2_init : (.code ⟨"FontList$Custom", "<init>", "()V"⟩ prog_4_method_1_code 1 (Option.none : Option Jvm.ClassFile.FieldType) : Cond) ∈ TB := TB_mem 282 (by decide +kernel) (by decide +kernel)
theorem km2_3 : (.methodLink "FontList$Custom" 3 ⟨"java/lang/Object", "<init>", "()V"⟩ : Cond) ∈ TB := TB_mem 283 (by decide +kernel) (by decide +kernel)
theorem kf2_9 : (.fieldLink "FontList$Custom" 9 "FontList$Custom" "letters" "[I" : Cond) ∈ TB := TB_mem 284 (by decide +kernel) (by decide +kernel)
theorem kf2_15 : (.fieldLink "FontList$Custom" 15 "FontList$Custom" "ends" "[I" : Cond) ∈ TB := TB_mem 285 (by decide +kernel) (by decide +kernel)
theorem kf2_18 : (.fieldLink "FontList$Custom" 18 "FontList$Custom" "signs" "[I" : Cond) ∈ TB := TB_mem 286 (by decide +kernel) (by decide +kernel)
theorem kf2_21 : (.fieldLink "FontList$Custom" 21 "FontList$Custom" "values" "[I" : Cond) ∈ TB := TB_mem 287 (by decide +kernel) (by decide +kernel)
theorem kf2_24 : (.fieldLink "FontList$Custom" 24 "FontList$Custom" "stack" "[I" : Cond) ∈ TB := TB_mem 288 (by decide +kernel) (by decide +kernel)
theorem kf2_27 : (.fieldLink "FontList$Custom" 27 "FontList$Custom" "steps" "I" : Cond) ∈ TB := TB_mem 289 (by decide +kernel) (by decide +kernel)
theorem kf2_31 : (.fieldLink "FontList$Custom" 31 "FontList$Custom" "clauses" "I" : Cond) ∈ TB := TB_mem 290 (by decide +kernel) (by decide +kernel)
theorem kf9_25 : (.fieldLink "FontList$Usage" 25 "FontList$Custom" "clauses" "I" : Cond) ∈ TB := TB_mem 291 (by decide +kernel) (by decide +kernel)
theorem kf6_69 : (.fieldLink "FontList$Reader" 69 "FontList$Custom" "clauses" "I" : Cond) ∈ TB := TB_mem 292 (by decide +kernel) (by decide +kernel)
theorem ky_char : (.arrayClass .char : Cond) ∈ TB := TB_mem 308 (by decide +kernel) (by decide +kernel)
theorem kf6_9 : (.fieldLink "FontList$Reader" 9 "FontList$Reader" "text" "[C" : Cond) ∈ TB := TB_mem 309 (by decide +kernel) (by decide +kernel)
theorem kf6_18 : (.fieldLink "FontList$Reader" 18 "FontList$Reader" "draft" "LFontList$Custom;" : Cond) ∈ TB := TB_mem 310 (by decide +kernel) (by decide +kernel)
theorem kf6_28 : (.fieldLink "FontList$Reader" 28 "FontList$Reader" "length" "I" : Cond) ∈ TB := TB_mem 311 (by decide +kernel) (by decide +kernel)
theorem kf6_38 : (.fieldLink "FontList$Reader" 38 "FontList$Reader" "at" "I" : Cond) ∈ TB := TB_mem 312 (by decide +kernel) (by decide +kernel)
theorem kf6_40 : (.fieldLink "FontList$Reader" 40 "FontList$Reader" "fault" "I" : Cond) ∈ TB := TB_mem 313 (by decide +kernel) (by decide +kernel)
theorem kl11_36 : (.classLink "FontList" 36 "FontList$Usage" : Cond) ∈ TB := TB_mem 325 (by decide +kernel) (by decide +kernel)
theorem kaX9 : (.instantiable "FontList$Usage" 4 : Cond) ∈ TB := TB_mem 326 (by decide +kernel) (by decide +kernel)
theorem km11_38 : (.methodLink "FontList" 38 ⟨"FontList$Usage", "<init>", "([LFontList$Custom;)V"⟩ : Cond) ∈ TB := TB_mem 327 (by decide +kernel) (by decide +kernel)
theorem kiX9_init : (.instanceMethod ⟨"FontList$Usage", "<init>", "([LFontList$Custom;)V"⟩ : Cond) ∈ TB := TB_mem 328 (by decide +kernel) (by decide +kernel)
theorem kcX9_init : (.code ⟨"FontList$Usage", "<init>", "([LFontList$Custom;)V"⟩ prog_11_method_1_code 2 (Option.none : Option Jvm.ClassFile.FieldType) : Cond) ∈ TB := TB_mem 329 (by decide +kernel) (by decide +kernel)
theorem km9_3 : (.methodLink "FontList$Usage" 3 ⟨"java/lang/Object", "<init>", "()V"⟩ : Cond) ∈ TB := TB_mem 330 (by decide +kernel) (by decide +kernel)
theorem kf9_21 : (.fieldLink "FontList$Usage" 21 "FontList$Usage" "told" "[LFontList$Custom;" : Cond) ∈ TB := TB_mem 331 (by decide +kernel) (by decide +kernel)
theorem kf9_9 : (.fieldLink "FontList$Usage" 9 "FontList$Usage" "ahead" "I" : Cond) ∈ TB := TB_mem 332 (by decide +kernel) (by decide +kernel)
theorem kf11_257 : (.fieldLink "FontList" 257 "FontList$Usage" "ahead" "I" : Cond) ∈ TB := TB_mem 333 (by decide +kernel) (by decide +kernel)
theorem kf9_15 : (.fieldLink "FontList$Usage" 15 "FontList$Usage" "since" "I" : Cond) ∈ TB := TB_mem 334 (by decide +kernel) (by decide +kernel)
theorem kf11_260 : (.fieldLink "FontList" 260 "FontList$Usage" "since" "I" : Cond) ∈ TB := TB_mem 335 (by decide +kernel) (by decide +kernel)
theorem kf9_18 : (.fieldLink "FontList$Usage" 18 "FontList$Usage" "change" "I" : Cond) ∈ TB := TB_mem 336 (by decide +kernel) (by decide +kernel)
theorem kf11_263 : (.fieldLink "FontList" 263 "FontList$Usage" "change" "I" : Cond) ∈ TB := TB_mem 337 (by decide +kernel) (by decide +kernel)
theorem kl11_48 : (.classLink "FontList" 48 "FontList$Family" : Cond) ∈ TB := TB_mem 347 (by decide +kernel) (by decide +kernel)
theorem kaX3 : (.instantiable "FontList$Family" 9 : Cond) ∈ TB := TB_mem 348 (by decide +kernel) (by decide +kernel)
theorem km11_50 : (.methodLink "FontList" 50 ⟨"FontList$Family", "<init>", "(LFontList$Books;)V"⟩ : Cond) ∈ TB := TB_mem 349 (by decide +kernel) (by decide +kernel)
theorem kiX3_init : (.instanceMethod ⟨"FontList$Family", "<init>", "(LFontList$Books;)V"⟩ : Cond) ∈ TB := TB_mem 350 (by decide +kernel) (by decide +kernel)
theorem kcX3_init : (.code ⟨"FontList$Family", "<init>", "(LFontList$Books;)V"⟩ prog_5_method_1_code 2 (Option.none : Option Jvm.ClassFile.FieldType) : Cond) ∈ TB := TB_mem 351 (by decide +kernel) (by decide +kernel)
theorem km3_3 : (.methodLink "FontList$Family" 3 ⟨"java/lang/Object", "<init>", "()V"⟩ : Cond) ∈ TB := TB_mem 352 (by decide +kernel) (by decide +kernel)
theorem km3_26 : (.methodLink "FontList$Family" 26 ⟨"java/lang/String", "length", "()I"⟩ : Cond) ∈ TB := TB_mem 354 (by decide +kernel) (by decide +kernel)
theorem kf3_38 : (.fieldLink "FontList$Family" 38 "FontList$Family" "books" "LFontList$Books;" : Cond) ∈ TB := TB_mem 364 (by decide +kernel) (by decide +kernel)
theorem kf3_9 : (.fieldLink "FontList$Family" 9 "FontList$Family" "child" "[I" : Cond) ∈ TB := TB_mem 365 (by decide +kernel) (by decide +kernel)
theorem kf3_15 : (.fieldLink "FontList$Family" 15 "FontList$Family" "letter" "[I" : Cond) ∈ TB := TB_mem 366 (by decide +kernel) (by decide +kernel)
theorem kf3_18 : (.fieldLink "FontList$Family" 18 "FontList$Family" "dead" "[I" : Cond) ∈ TB := TB_mem 367 (by decide +kernel) (by decide +kernel)
theorem kf3_21 : (.fieldLink "FontList$Family" 21 "FontList$Family" "held" "[I" : Cond) ∈ TB := TB_mem 368 (by decide +kernel) (by decide +kernel)
theorem kf3_32 : (.fieldLink "FontList$Family" 32 "FontList$Family" "facts" "[I" : Cond) ∈ TB := TB_mem 369 (by decide +kernel) (by decide +kernel)
theorem kf3_35 : (.fieldLink "FontList$Family" 35 "FontList$Family" "foreseen" "[I" : Cond) ∈ TB := TB_mem 370 (by decide +kernel) (by decide +kernel)
theorem kf3_42 : (.fieldLink "FontList$Family" 42 "FontList$Family" "couple" "I" : Cond) ∈ TB := TB_mem 371 (by decide +kernel) (by decide +kernel)
theorem kf3_46 : (.fieldLink "FontList$Family" 46 "FontList$Family" "size" "I" : Cond) ∈ TB := TB_mem 372 (by decide +kernel) (by decide +kernel)
theorem ky_byte : (.arrayClass .byte : Cond) ∈ TB := TB_mem 392 (by decide +kernel) (by decide +kernel)
theorem kl11_57 : (.classLink "FontList" 57 "FontList$Row" : Cond) ∈ TB := TB_mem 393 (by decide +kernel) (by decide +kernel)
theorem kaX7 : (.instantiable "FontList$Row" 3 : Cond) ∈ TB := TB_mem 394 (by decide +kernel) (by decide +kernel)
theorem km11_59 : (.methodLink "FontList" 59 ⟨"FontList$Row", "<init>", "(LFontList$Books;LFontList$Family;)V"⟩ : Cond) ∈ TB := TB_mem 395 (by decide +kernel) (by decide +kernel)
theorem kiX7_init : (.instanceMethod ⟨"FontList$Row", "<init>", "(LFontList$Books;LFontList$Family;)V"⟩ : Cond) ∈ TB := TB_mem 396 (by decide +kernel) (by decide +kernel)
theorem kcX7_init : (.code ⟨"FontList$Row", "<init>", "(LFontList$Books;LFontList$Family;)V"⟩ prog_9_method_1_code 3 (Option.none : Option Jvm.ClassFile.FieldType) : Cond) ∈ TB := TB_mem 397 (by decide +kernel) (by decide +kernel)
theorem km7_3 : (.methodLink "FontList$Row" 3 ⟨"java/lang/Object", "<init>", "()V"⟩ : Cond) ∈ TB := TB_mem 398 (by decide +kernel) (by decide +kernel)
theorem kf7_15 : (.fieldLink "FontList$Row" 15 "FontList$Row" "books" "LFontList$Books;" : Cond) ∈ TB := TB_mem 399 (by decide +kernel) (by decide +kernel)
theorem kf7_19 : (.fieldLink "FontList$Row" 19 "FontList$Row" "family" "LFontList$Family;" : Cond) ∈ TB := TB_mem 400 (by decide +kernel) (by decide +kernel)
theorem kf7_9 : (.fieldLink "FontList$Row" 9 "FontList$Row" "sets" "[I" : Cond) ∈ TB := TB_mem 401 (by decide +kernel) (by decide +kernel)
theorem kl11_66 : (.classLink "FontList" 66 "FontList$Ways" : Cond) ∈ TB := TB_mem 409 (by decide +kernel) (by decide +kernel)
theorem kaX10 : (.instantiable "FontList$Ways" 11 : Cond) ∈ TB := TB_mem 410 (by decide +kernel) (by decide +kernel)
theorem km11_68 : (.methodLink "FontList" 68 ⟨"FontList$Ways", "<init>", "(LFontList$Books;LFontList$Family;)V"⟩ : Cond) ∈ TB := TB_mem 411 (by decide +kernel) (by decide +kernel)
theorem kiX10_init : (.instanceMethod ⟨"FontList$Ways", "<init>", "(LFontList$Books;LFontList$Family;)V"⟩ : Cond) ∈ TB := TB_mem 412 (by decide +kernel) (by decide +kernel)
theorem kcX10_init : (.code ⟨"FontList$Ways", "<init>", "(LFontList$Books;LFontList$Family;)V"⟩ prog_12_method_1_code 5 (Option.none : Option Jvm.ClassFile.FieldType) : Cond) ∈ TB := TB_mem 413 (by decide +kernel) (by decide +kernel)
theorem km10_3 : (.methodLink "FontList$Ways" 3 ⟨"java/lang/Object", "<init>", "()V"⟩ : Cond) ∈ TB := TB_mem 414 (by decide +kernel) (by decide +kernel)
theorem km10_45 : (.methodLink "FontList$Ways" 45 ⟨"FontList$Ways", "shiftOf", "(I)I"⟩ : Cond) ∈ TB := TB_mem 415 (by decide +kernel) (by decide +kernel)
theorem ksX10_shiftOf : (.static ⟨"FontList$Ways", "shiftOf", "(I)I"⟩ : Cond) ∈ TB := TB_mem 416 (by decide +kernel) (by decide +kernel)
theorem kcX10_shiftOf : (.code ⟨"FontList$Ways", "shiftOf", "(I)I"⟩ prog_12_method_2_code 1 (Option.some .int) : Cond) ∈ TB := TB_mem 417 (by decide +kernel) (by decide +kernel)
theorem kf10_37 : (.fieldLink "FontList$Ways" 37 "FontList$Ways" "books" "LFontList$Books;" : Cond) ∈ TB := TB_mem 418 (by decide +kernel) (by decide +kernel)
theorem kf10_41 : (.fieldLink "FontList$Ways" 41 "FontList$Ways" "family" "LFontList$Family;" : Cond) ∈ TB := TB_mem 419 (by decide +kernel) (by decide +kernel)
theorem kf10_11 : (.fieldLink "FontList$Ways" 11 "FontList$Ways" "worth" "[I" : Cond) ∈ TB := TB_mem 420 (by decide +kernel) (by decide +kernel)
theorem kf10_15 : (.fieldLink "FontList$Ways" 15 "FontList$Ways" "spread" "[I" : Cond) ∈ TB := TB_mem 421 (by decide +kernel) (by decide +kernel)
theorem kf10_18 : (.fieldLink "FontList$Ways" 18 "FontList$Ways" "most" "[I" : Cond) ∈ TB := TB_mem 422 (by decide +kernel) (by decide +kernel)
theorem kf10_21 : (.fieldLink "FontList$Ways" 21 "FontList$Ways" "next" "[I" : Cond) ∈ TB := TB_mem 423 (by decide +kernel) (by decide +kernel)
theorem kf10_24 : (.fieldLink "FontList$Ways" 24 "FontList$Ways" "least" "[I" : Cond) ∈ TB := TB_mem 424 (by decide +kernel) (by decide +kernel)
theorem kf10_27 : (.fieldLink "FontList$Ways" 27 "FontList$Ways" "common" "[I" : Cond) ∈ TB := TB_mem 425 (by decide +kernel) (by decide +kernel)
theorem kf10_30 : (.fieldLink "FontList$Ways" 30 "FontList$Ways" "bests" "[J" : Cond) ∈ TB := TB_mem 426 (by decide +kernel) (by decide +kernel)
theorem kf10_34 : (.fieldLink "FontList$Ways" 34 "FontList$Ways" "all" "[J" : Cond) ∈ TB := TB_mem 427 (by decide +kernel) (by decide +kernel)
theorem kf10_49 : (.fieldLink "FontList$Ways" 49 "FontList$Ways" "settled" "Z" : Cond) ∈ TB := TB_mem 428 (by decide +kernel) (by decide +kernel)
theorem ky_long : (.arrayClass .long : Cond) ∈ TB := TB_mem 452 (by decide +kernel) (by decide +kernel)
theorem kf11_10 : (.fieldLink "FontList" 10 "FontList" "books" "LFontList$Books;" : Cond) ∈ TB := TB_mem 454 (by decide +kernel) (by decide +kernel)
theorem kf11_19 : (.fieldLink "FontList" 19 "FontList" "tape" "LFontList$Tape;" : Cond) ∈ TB := TB_mem 455 (by decide +kernel) (by decide +kernel)
theorem kf11_25 : (.fieldLink "FontList" 25 "FontList" "told" "[LFontList$Custom;" : Cond) ∈ TB := TB_mem 456 (by decide +kernel) (by decide +kernel)
theorem kf11_32 : (.fieldLink "FontList" 32 "FontList" "reader" "LFontList$Reader;" : Cond) ∈ TB := TB_mem 457 (by decide +kernel) (by decide +kernel)
theorem kf11_41 : (.fieldLink "FontList" 41 "FontList" "usage" "LFontList$Usage;" : Cond) ∈ TB := TB_mem 458 (by decide +kernel) (by decide +kernel)
theorem kf11_45 : (.fieldLink "FontList" 45 "FontList" "trial" "LFontList$Usage;" : Cond) ∈ TB := TB_mem 459 (by decide +kernel) (by decide +kernel)
theorem kf11_53 : (.fieldLink "FontList" 53 "FontList" "household" "LFontList$Family;" : Cond) ∈ TB := TB_mem 460 (by decide +kernel) (by decide +kernel)
theorem kf11_62 : (.fieldLink "FontList" 62 "FontList" "row" "LFontList$Row;" : Cond) ∈ TB := TB_mem 461 (by decide +kernel) (by decide +kernel)
theorem kf11_69 : (.fieldLink "FontList" 69 "FontList" "search" "LFontList$Ways;" : Cond) ∈ TB := TB_mem 462 (by decide +kernel) (by decide +kernel)
theorem kmL_13 : (.methodLink "FontListLaw" 13 ⟨"FontList", "name", "(II)I"⟩ : Cond) ∈ TB := TB_mem 482 (by decide +kernel) (by decide +kernel)
theorem kiX11_name : (.instanceMethod ⟨"FontList", "name", "(II)I"⟩ : Cond) ∈ TB := TB_mem 483 (by decide +kernel) (by decide +kernel)
theorem kcX11_name : (.code ⟨"FontList", "name", "(II)I"⟩ prog_1_method_2_code 4 (Option.some .int) : Cond) ∈ TB := TB_mem 485 (by decide +kernel) (by decide +kernel)
theorem km11_78 : (.methodLink "FontList" 78 ⟨"FontList$Names", "add", "(II)I"⟩ : Cond) ∈ TB := TB_mem 486 (by decide +kernel) (by decide +kernel)
theorem kiX5_add : (.instanceMethod ⟨"FontList$Names", "add", "(II)I"⟩ : Cond) ∈ TB := TB_mem 487 (by decide +kernel) (by decide +kernel)
theorem kcX5_add : (.code ⟨"FontList$Names", "add", "(II)I"⟩ prog_7_method_3_code 3 (Option.some .int) : Cond) ∈ TB := TB_mem 489 (by decide +kernel) (by decide +kernel)
theorem km11_84 : (.methodLink "FontList" 84 ⟨"FontList$Ways", "forget", "()V"⟩ : Cond) ∈ TB := TB_mem 490 (by decide +kernel) (by decide +kernel)
theorem kiX10_forget : (.instanceMethod ⟨"FontList$Ways", "forget", "()V"⟩ : Cond) ∈ TB := TB_mem 491 (by decide +kernel) (by decide +kernel)
theorem kcX10_forget : (.code ⟨"FontList$Ways", "forget", "()V"⟩ prog_12_method_3_code 1 (Option.none : Option Jvm.ClassFile.FieldType) : Cond) ∈ TB := TB_mem 493 (by decide +kernel) (by decide +kernel)
theorem kmL_18 : (.methodLink "FontListLaw" 18 ⟨"FontList", "couple", "(IIII)I"⟩ : Cond) ∈ TB := TB_mem 494 (by decide +kernel) (by decide +kernel)
theorem kiX11_couple : (.instanceMethod ⟨"FontList", "couple", "(IIII)I"⟩ : Cond) ∈ TB := TB_mem 495 (by decide +kernel) (by decide +kernel)
theorem kcX11_couple : (.code ⟨"FontList", "couple", "(IIII)I"⟩ prog_1_method_3_code 6 (Option.some .int) : Cond) ∈ TB := TB_mem 497 (by decide +kernel) (by decide +kernel)
theorem km11_87 : (.methodLink "FontList" 87 ⟨"FontList$Names", "has", "(II)Z"⟩ : Cond) ∈ TB := TB_mem 498 (by decide +kernel) (by decide +kernel)
theorem kiX5_has : (.instanceMethod ⟨"FontList$Names", "has", "(II)Z"⟩ : Cond) ∈ TB := TB_mem 499 (by decide +kernel) (by decide +kernel)
theorem kcX5_has : (.code ⟨"FontList$Names", "has", "(II)Z"⟩ prog_7_method_2_code 3 (Option.some .boolean) : Cond) ∈ TB := TB_mem 501 (by decide +kernel) (by decide +kernel)
theorem km11_95 : (.methodLink "FontList" 95 ⟨"FontList$Couples", "add", "(IIII)I"⟩ : Cond) ∈ TB := TB_mem 502 (by decide +kernel) (by decide +kernel)
theorem kiX1_add : (.instanceMethod ⟨"FontList$Couples", "add", "(IIII)I"⟩ : Cond) ∈ TB := TB_mem 503 (by decide +kernel) (by decide +kernel)
theorem kcX1_add : (.code ⟨"FontList$Couples", "add", "(IIII)I"⟩ prog_3_method_3_code 6 (Option.some .int) : Cond) ∈ TB := TB_mem 505 (by decide +kernel) (by decide +kernel)
theorem kmL_23 : (.methodLink "FontListLaw" 23 ⟨"FontList", "parent", "(III)Z"⟩ : Cond) ∈ TB := TB_mem 506 (by decide +kernel) (by decide +kernel)
theorem kiX11_parent : (.instanceMethod ⟨"FontList", "parent", "(III)Z"⟩ : Cond) ∈ TB := TB_mem 507 (by decide +kernel) (by decide +kernel)
theorem kcX11_parent : (.code ⟨"FontList", "parent", "(III)Z"⟩ prog_1_method_4_code 4 (Option.some .boolean) : Cond) ∈ TB := TB_mem 509 (by decide +kernel) (by decide +kernel)
theorem km11_100 : (.methodLink "FontList" 100 ⟨"FontList$Couples", "has", "(I)Z"⟩ : Cond) ∈ TB := TB_mem 510 (by decide +kernel) (by decide +kernel)
theorem kiX1_has : (.instanceMethod ⟨"FontList$Couples", "has", "(I)Z"⟩ : Cond) ∈ TB := TB_mem 511 (by decide +kernel) (by decide +kernel)
theorem kcX1_has : (.code ⟨"FontList$Couples", "has", "(I)Z"⟩ prog_3_method_2_code 2 (Option.some .boolean) : Cond) ∈ TB := TB_mem 513 (by decide +kernel) (by decide +kernel)
theorem km11_103 : (.methodLink "FontList" 103 ⟨"FontList$Couples", "tellParent", "(III)V"⟩ : Cond) ∈ TB := TB_mem 514 (by decide +kernel) (by decide +kernel)
theorem kiX1_tellParent : (.instanceMethod ⟨"FontList$Couples", "tellParent", "(III)V"⟩ : Cond) ∈ TB := TB_mem 515 (by decide +kernel) (by decide +kernel)
theorem kcX1_tellParent : (.code ⟨"FontList$Couples", "tellParent", "(III)V"⟩ prog_3_method_4_code 4 (Option.none : Option Jvm.ClassFile.FieldType) : Cond) ∈ TB := TB_mem 517 (by decide +kernel) (by decide +kernel)
theorem km1_31 : (.methodLink "FontList$Couples" 31 ⟨"FontList$Couples", "has", "(I)Z"⟩ : Cond) ∈ TB := TB_mem 518 (by decide +kernel) (by decide +kernel)
theorem kmL_28 : (.methodLink "FontListLaw" 28 ⟨"FontList", "christening", "(IIIII)I"⟩ : Cond) ∈ TB := TB_mem 519 (by decide +kernel) (by decide +kernel)
theorem kiX11_christening : (.instanceMethod ⟨"FontList", "christening", "(IIIII)I"⟩ : Cond) ∈ TB := TB_mem 520 (by decide +kernel) (by decide +kernel)
theorem kcX11_christening : (.code ⟨"FontList", "christening", "(IIIII)I"⟩ prog_1_method_5_code 8 (Option.some .int) : Cond) ∈ TB := TB_mem 522 (by decide +kernel) (by decide +kernel)
theorem km11_115 : (.methodLink "FontList" 115 ⟨"FontList$Fonts", "add", "(IIIII)I"⟩ : Cond) ∈ TB := TB_mem 523 (by decide +kernel) (by decide +kernel)
theorem kiX4_add : (.instanceMethod ⟨"FontList$Fonts", "add", "(IIIII)I"⟩ : Cond) ∈ TB := TB_mem 524 (by decide +kernel) (by decide +kernel)
theorem kcX4_add : (.code ⟨"FontList$Fonts", "add", "(IIIII)I"⟩ prog_6_method_3_code 6 (Option.some .int) : Cond) ∈ TB := TB_mem 526 (by decide +kernel) (by decide +kernel)
theorem km4_37 : (.methodLink "FontList$Fonts" 37 ⟨"FontList$Fonts", "putInOrder", "(I)V"⟩ : Cond) ∈ TB := TB_mem 527 (by decide +kernel) (by decide +kernel)
theorem kiX4_putInOrder : (.instanceMethod ⟨"FontList$Fonts", "putInOrder", "(I)V"⟩ : Cond) ∈ TB := TB_mem 529 (by decide +kernel) (by decide +kernel)
theorem kcX4_putInOrder : (.code ⟨"FontList$Fonts", "putInOrder", "(I)V"⟩ prog_6_method_4_code 3 (Option.none : Option Jvm.ClassFile.FieldType) : Cond) ∈ TB := TB_mem 530 (by decide +kernel) (by decide +kernel)
theorem kmL_33 : (.methodLink "FontListLaw" 33 ⟨"FontList", "died", "(II)Z"⟩ : Cond) ∈ TB := TB_mem 531 (by decide +kernel) (by decide +kernel)
theorem kiX11_died : (.instanceMethod ⟨"FontList", "died", "(II)Z"⟩ : Cond) ∈ TB := TB_mem 532 (by decide +kernel) (by decide +kernel)
theorem kcX11_died : (.code ⟨"FontList", "died", "(II)Z"⟩ prog_1_method_6_code 3 (Option.some .boolean) : Cond) ∈ TB := TB_mem 534 (by decide +kernel) (by decide +kernel)
theorem km11_120 : (.methodLink "FontList" 120 ⟨"FontList$Fonts", "has", "(I)Z"⟩ : Cond) ∈ TB := TB_mem 535 (by decide +kernel) (by decide +kernel)
theorem kiX4_has : (.instanceMethod ⟨"FontList$Fonts", "has", "(I)Z"⟩ : Cond) ∈ TB := TB_mem 536 (by decide +kernel) (by decide +kernel)
theorem kcX4_has : (.code ⟨"FontList$Fonts", "has", "(I)Z"⟩ prog_6_method_2_code 2 (Option.some .boolean) : Cond) ∈ TB := TB_mem 538 (by decide +kernel) (by decide +kernel)
theorem kmL_38 : (.methodLink "FontListLaw" 38 ⟨"FontList", "weighs", "(II)Z"⟩ : Cond) ∈ TB := TB_mem 539 (by decide +kernel) (by decide +kernel)
theorem kiX11_weighs : (.instanceMethod ⟨"FontList", "weighs", "(II)Z"⟩ : Cond) ∈ TB := TB_mem 540 (by decide +kernel) (by decide +kernel)
theorem kcX11_weighs : (.code ⟨"FontList", "weighs", "(II)Z"⟩ prog_1_method_7_code 3 (Option.some .boolean) : Cond) ∈ TB := TB_mem 542 (by decide +kernel) (by decide +kernel)
theorem kmL_42 : (.methodLink "FontListLaw" 42 ⟨"FontList", "feed", "(IIIII)I"⟩ : Cond) ∈ TB := TB_mem 543 (by decide +kernel) (by decide +kernel)
theorem kiX11_feed : (.instanceMethod ⟨"FontList", "feed", "(IIIII)I"⟩ : Cond) ∈ TB := TB_mem 544 (by decide +kernel) (by decide +kernel)
theorem kcX11_feed : (.code ⟨"FontList", "feed", "(IIIII)I"⟩ prog_1_method_8_code 6 (Option.some .int) : Cond) ∈ TB := TB_mem 546 (by decide +kernel) (by decide +kernel)
theorem km11_134 : (.methodLink "FontList" 134 ⟨"FontList$Tape", "hasRoom", "()Z"⟩ : Cond) ∈ TB := TB_mem 547 (by decide +kernel) (by decide +kernel)
theorem kiX8_hasRoom : (.instanceMethod ⟨"FontList$Tape", "hasRoom", "()Z"⟩ : Cond) ∈ TB := TB_mem 548 (by decide +kernel) (by decide +kernel)
theorem kcX8_hasRoom : (.code ⟨"FontList$Tape", "hasRoom", "()Z"⟩ prog_10_method_2_code 1 (Option.some .boolean) : Cond) ∈ TB := TB_mem 550 (by decide +kernel) (by decide +kernel)
theorem km11_138 : (.methodLink "FontList" 138 ⟨"FontList$Tape", "append", "(I)V"⟩ : Cond) ∈ TB := TB_mem 551 (by decide +kernel) (by decide +kernel)
theorem kiX8_append : (.instanceMethod ⟨"FontList$Tape", "append", "(I)V"⟩ : Cond) ∈ TB := TB_mem 552 (by decide +kernel) (by decide +kernel)
theorem kcX8_append : (.code ⟨"FontList$Tape", "append", "(I)V"⟩ prog_10_method_3_code 3 (Option.none : Option Jvm.ClassFile.FieldType) : Cond) ∈ TB := TB_mem 554 (by decide +kernel) (by decide +kernel)
theorem kmL_46 : (.methodLink "FontListLaw" 46 ⟨"FontList", "custom", "(II)I"⟩ : Cond) ∈ TB := TB_mem 555 (by decide +kernel) (by decide +kernel)
theorem kiX11_custom : (.instanceMethod ⟨"FontList", "custom", "(II)I"⟩ : Cond) ∈ TB := TB_mem 556 (by decide +kernel) (by decide +kernel)
theorem kcX11_custom : (.code ⟨"FontList", "custom", "(II)I"⟩ prog_1_method_9_code 4 (Option.some .int) : Cond) ∈ TB := TB_mem 558 (by decide +kernel) (by decide +kernel)
theorem km11_145 : (.methodLink "FontList" 145 ⟨"FontList$Reader", "read", "(LFontList$Tape;I)I"⟩ : Cond) ∈ TB := TB_mem 559 (by decide +kernel) (by decide +kernel)
theorem kiX6_read : (.instanceMethod ⟨"FontList$Reader", "read", "(LFontList$Tape;I)I"⟩ : Cond) ∈ TB := TB_mem 560 (by decide +kernel) (by decide +kernel)
theorem kcX6_read : (.code ⟨"FontList$Reader", "read", "(LFontList$Tape;I)I"⟩ prog_8_method_2_code 5 (Option.some .int) : Cond) ∈ TB := TB_mem 562 (by decide +kernel) (by decide +kernel)
theorem km6_22 : (.methodLink "FontList$Reader" 22 ⟨"java/lang/Math", "min", "(II)I"⟩ : Cond) ∈ TB := TB_mem 563 (by decide +kernel) (by decide +kernel)
theorem km6_32 : (.methodLink "FontList$Reader" 32 ⟨"FontList$Tape", "at", "(I)I"⟩ : Cond) ∈ TB := TB_mem 566 (by decide +kernel) (by decide +kernel)
theorem kiX8_at : (.instanceMethod ⟨"FontList$Tape", "at", "(I)I"⟩ : Cond) ∈ TB := TB_mem 567 (by decide +kernel) (by decide +kernel)
theorem kcX8_at : (.code ⟨"FontList$Tape", "at", "(I)I"⟩ prog_10_method_4_code 2 (Option.some .int) : Cond) ∈ TB := TB_mem 569 (by decide +kernel) (by decide +kernel)
theorem km6_43 : (.methodLink "FontList$Reader" 43 ⟨"FontList$Custom", "clear", "()V"⟩ : Cond) ∈ TB := TB_mem 570 (by decide +kernel) (by decide +kernel)
theorem kiX2_clear : (.instanceMethod ⟨"FontList$Custom", "clear", "()V"⟩ : Cond) ∈ TB := TB_mem 571 (by decide +kernel) (by decide +kernel)
theorem kcX2_clear : (.code ⟨"FontList$Custom", "clear", "()V"⟩ prog_4_method_2_code 1 (Option.none : Option Jvm.ClassFile.FieldType) : Cond) ∈ TB := TB_mem 573 (by decide +kernel) (by decide +kernel)
theorem km6_46 : (.methodLink "FontList$Reader" 46 ⟨"FontList$Reader", "clause", "()Z"⟩ : Cond) ∈ TB := TB_mem 574 (by decide +kernel) (by decide +kernel)
theorem kiX6_clause : (.instanceMethod ⟨"FontList$Reader", "clause", "()Z"⟩ : Cond) ∈ TB := TB_mem 576 (by decide +kernel) (by decide +kernel)
theorem kcX6_clause : (.code ⟨"FontList$Reader", "clause", "()Z"⟩ prog_8_method_7_code 2 (Option.some .boolean) : Cond) ∈ TB := TB_mem 577 (by decide +kernel) (by decide +kernel)
theorem km6_54 : (.methodLink "FontList$Reader" 54 ⟨"FontList$Reader", "peek", "()C"⟩ : Cond) ∈ TB := TB_mem 579 (by decide +kernel) (by decide +kernel)
theorem kiX6_peek : (.instanceMethod ⟨"FontList$Reader", "peek", "()C"⟩ : Cond) ∈ TB := TB_mem 581 (by decide +kernel) (by decide +kernel)
theorem kcX6_peek : (.code ⟨"FontList$Reader", "peek", "()C"⟩ prog_8_method_4_code 1 (Option.some .char) : Cond) ∈ TB := TB_mem 582 (by decide +kernel) (by decide +kernel)
theorem km6_64 : (.methodLink "FontList$Reader" 64 ⟨"java/lang/String", "indexOf", "(I)I"⟩ : Cond) ∈ TB := TB_mem 583 (by decide +kernel) (by decide +kernel)
theorem km6_58 : (.methodLink "FontList$Reader" 58 ⟨"FontList$Reader", "refuse", "(I)Z"⟩ : Cond) ∈ TB := TB_mem 658 (by decide +kernel) (by decide +kernel)
theorem kiX6_refuse : (.instanceMethod ⟨"FontList$Reader", "refuse", "(I)Z"⟩ : Cond) ∈ TB := TB_mem 660 (by decide +kernel) (by decide +kernel)
theorem kcX6_refuse : (.code ⟨"FontList$Reader", "refuse", "(I)Z"⟩ prog_8_method_5_code 2 (Option.some .boolean) : Cond) ∈ TB := TB_mem 661 (by decide +kernel) (by decide +kernel)
theorem km6_50 : (.methodLink "FontList$Reader" 50 ⟨"FontList$Reader", "take", "(C)Z"⟩ : Cond) ∈ TB := TB_mem 662 (by decide +kernel) (by decide +kernel)
theorem kiX6_take : (.instanceMethod ⟨"FontList$Reader", "take", "(C)Z"⟩ : Cond) ∈ TB := TB_mem 664 (by decide +kernel) (by decide +kernel)
theorem kcX6_take : (.code ⟨"FontList$Reader", "take", "(C)Z"⟩ prog_8_method_6_code 2 (Option.some .boolean) : Cond) ∈ TB := TB_mem 665 (by decide +kernel) (by decide +kernel)
theorem km6_72 : (.methodLink "FontList$Reader" 72 ⟨"FontList$Reader", "chain", "(II)Z"⟩ : Cond) ∈ TB := TB_mem 666 (by decide +kernel) (by decide +kernel)
theorem kiX6_chain : (.instanceMethod ⟨"FontList$Reader", "chain", "(II)Z"⟩ : Cond) ∈ TB := TB_mem 668 (by decide +kernel) (by decide +kernel)
theorem kcX6_chain : (.code ⟨"FontList$Reader", "chain", "(II)Z"⟩ prog_8_method_9_code 8 (Option.some .boolean) : Cond) ∈ TB := TB_mem 669 (by decide +kernel) (by decide +kernel)
theorem km6_88 : (.methodLink "FontList$Reader" 88 ⟨"FontList$Reader", "operand", "(II)Z"⟩ : Cond) ∈ TB := TB_mem 670 (by decide +kernel) (by decide +kernel)
theorem kiX6_operand : (.instanceMethod ⟨"FontList$Reader", "operand", "(II)Z"⟩ : Cond) ∈ TB := TB_mem 672 (by decide +kernel) (by decide +kernel)
theorem kcX6_operand : (.code ⟨"FontList$Reader", "operand", "(II)Z"⟩ prog_8_method_10_code 3 (Option.some .boolean) : Cond) ∈ TB := TB_mem 673 (by decide +kernel) (by decide +kernel)
theorem km6_101 : (.methodLink "FontList$Reader" 101 ⟨"FontList$Reader", "piece", "(I)Z"⟩ : Cond) ∈ TB := TB_mem 674 (by decide +kernel) (by decide +kernel)
theorem kiX6_piece : (.instanceMethod ⟨"FontList$Reader", "piece", "(I)Z"⟩ : Cond) ∈ TB := TB_mem 676 (by decide +kernel) (by decide +kernel)
theorem kcX6_piece : (.code ⟨"FontList$Reader", "piece", "(I)Z"⟩ prog_8_method_11_code 3 (Option.some .boolean) : Cond) ∈ TB := TB_mem 677 (by decide +kernel) (by decide +kernel)
theorem km6_107 : (.methodLink "FontList$Reader" 107 ⟨"FontList$Reader", "comparison", "(I)Z"⟩ : Cond) ∈ TB := TB_mem 678 (by decide +kernel) (by decide +kernel)
theorem kiX6_comparison : (.instanceMethod ⟨"FontList$Reader", "comparison", "(I)Z"⟩ : Cond) ∈ TB := TB_mem 680 (by decide +kernel) (by decide +kernel)
theorem kcX6_comparison : (.code ⟨"FontList$Reader", "comparison", "(I)Z"⟩ prog_8_method_12_code 3 (Option.some .boolean) : Cond) ∈ TB := TB_mem 681 (by decide +kernel) (by decide +kernel)
theorem km6_95 : (.methodLink "FontList$Reader" 95 ⟨"FontList$Custom", "addStep", "(II)I"⟩ : Cond) ∈ TB := TB_mem 682 (by decide +kernel) (by decide +kernel)
theorem kiX2_addStep : (.instanceMethod ⟨"FontList$Custom", "addStep", "(II)I"⟩ : Cond) ∈ TB := TB_mem 683 (by decide +kernel) (by decide +kernel)
theorem kcX2_addStep : (.code ⟨"FontList$Custom", "addStep", "(II)I"⟩ prog_4_method_3_code 3 (Option.some .int) : Cond) ∈ TB := TB_mem 685 (by decide +kernel) (by decide +kernel)
theorem km6_104 : (.methodLink "FontList$Reader" 104 ⟨"FontList$Reader", "factor", "(I)Z"⟩ : Cond) ∈ TB := TB_mem 686 (by decide +kernel) (by decide +kernel)
theorem kiX6_factor : (.instanceMethod ⟨"FontList$Reader", "factor", "(I)Z"⟩ : Cond) ∈ TB := TB_mem 688 (by decide +kernel) (by decide +kernel)
theorem kcX6_factor : (.code ⟨"FontList$Reader", "factor", "(I)Z"⟩ prog_8_method_13_code 4 (Option.some .boolean) : Cond) ∈ TB := TB_mem 689 (by decide +kernel) (by decide +kernel)
theorem km6_110 : (.methodLink "FontList$Reader" 110 ⟨"FontList$Reader", "isDigit", "(C)Z"⟩ : Cond) ∈ TB := TB_mem 690 (by decide +kernel) (by decide +kernel)
theorem ksX6_isDigit : (.static ⟨"FontList$Reader", "isDigit", "(C)Z"⟩ : Cond) ∈ TB := TB_mem 691 (by decide +kernel) (by decide +kernel)
theorem kcX6_isDigit : (.code ⟨"FontList$Reader", "isDigit", "(C)Z"⟩ prog_8_method_14_code 1 (Option.some .boolean) : Cond) ∈ TB := TB_mem 692 (by decide +kernel) (by decide +kernel)
theorem km6_113 : (.methodLink "FontList$Reader" 113 ⟨"FontList$Reader", "number", "()Z"⟩ : Cond) ∈ TB := TB_mem 693 (by decide +kernel) (by decide +kernel)
theorem kiX6_number : (.instanceMethod ⟨"FontList$Reader", "number", "()Z"⟩ : Cond) ∈ TB := TB_mem 695 (by decide +kernel) (by decide +kernel)
theorem kcX6_number : (.code ⟨"FontList$Reader", "number", "()Z"⟩ prog_8_method_15_code 3 (Option.some .boolean) : Cond) ∈ TB := TB_mem 696 (by decide +kernel) (by decide +kernel)
theorem km6_91 : (.methodLink "FontList$Reader" 91 ⟨"FontList$Reader", "signsOf", "(I)Ljava/lang/String;"⟩ : Cond) ∈ TB := TB_mem 698 (by decide +kernel) (by decide +kernel)
theorem ksX6_signsOf : (.static ⟨"FontList$Reader", "signsOf", "(I)Ljava/lang/String;"⟩ : Cond) ∈ TB := TB_mem 699 (by decide +kernel) (by decide +kernel)
theorem kcX6_signsOf : (.code ⟨"FontList$Reader", "signsOf", "(I)Ljava/lang/String;"⟩ prog_8_method_8_code 1 (Option.some (.object "java/lang/String")) : Cond) ∈ TB := TB_mem 700 (by decide +kernel) (by decide +kernel)
theorem km6_98 : (.methodLink "FontList$Reader" 98 ⟨"FontList$Custom", "leadHere", "(I)V"⟩ : Cond) ∈ TB := TB_mem 705 (by decide +kernel) (by decide +kernel)
theorem kiX2_leadHere : (.instanceMethod ⟨"FontList$Custom", "leadHere", "(I)V"⟩ : Cond) ∈ TB := TB_mem 706 (by decide +kernel) (by decide +kernel)
theorem kcX2_leadHere : (.code ⟨"FontList$Custom", "leadHere", "(I)V"⟩ prog_4_method_4_code 2 (Option.none : Option Jvm.ClassFile.FieldType) : Cond) ∈ TB := TB_mem 708 (by decide +kernel) (by decide +kernel)
theorem km6_76 : (.methodLink "FontList$Reader" 76 ⟨"FontList$Custom", "endClause", "(I)V"⟩ : Cond) ∈ TB := TB_mem 709 (by decide +kernel) (by decide +kernel)
theorem kiX2_endClause : (.instanceMethod ⟨"FontList$Custom", "endClause", "(I)V"⟩ : Cond) ∈ TB := TB_mem 710 (by decide +kernel) (by decide +kernel)
theorem kcX2_endClause : (.code ⟨"FontList$Custom", "endClause", "(I)V"⟩ prog_4_method_5_code 2 (Option.none : Option Jvm.ClassFile.FieldType) : Cond) ∈ TB := TB_mem 712 (by decide +kernel) (by decide +kernel)
theorem km11_149 : (.methodLink "FontList" 149 ⟨"FontList$Tape", "clear", "()V"⟩ : Cond) ∈ TB := TB_mem 713 (by decide +kernel) (by decide +kernel)
theorem kiX8_clear : (.instanceMethod ⟨"FontList$Tape", "clear", "()V"⟩ : Cond) ∈ TB := TB_mem 714 (by decide +kernel) (by decide +kernel)
theorem kcX8_clear : (.code ⟨"FontList$Tape", "clear", "()V"⟩ prog_10_method_5_code 1 (Option.none : Option Jvm.ClassFile.FieldType) : Cond) ∈ TB := TB_mem 716 (by decide +kernel) (by decide +kernel)
theorem km11_152 : (.methodLink "FontList" 152 ⟨"FontList$Reader", "exchange", "(LFontList$Custom;)LFontList$Custom;"⟩ : Cond) ∈ TB := TB_mem 717 (by decide +kernel) (by decide +kernel)
theorem kiX6_exchange : (.instanceMethod ⟨"FontList$Reader", "exchange", "(LFontList$Custom;)LFontList$Custom;"⟩ : Cond) ∈ TB := TB_mem 718 (by decide +kernel) (by decide +kernel)
theorem kcX6_exchange : (.code ⟨"FontList$Reader", "exchange", "(LFontList$Custom;)LFontList$Custom;"⟩ prog_8_method_3_code 3 (Option.some (.object "FontList$Custom")) : Cond) ∈ TB := TB_mem 720 (by decide +kernel) (by decide +kernel)
theorem km11_156 : (.methodLink "FontList" 156 ⟨"FontList$Usage", "clausesOf", "(I)I"⟩ : Cond) ∈ TB := TB_mem 721 (by decide +kernel) (by decide +kernel)
theorem kiX9_clausesOf : (.instanceMethod ⟨"FontList$Usage", "clausesOf", "(I)I"⟩ : Cond) ∈ TB := TB_mem 722 (by decide +kernel) (by decide +kernel)
theorem kcX9_clausesOf : (.code ⟨"FontList$Usage", "clausesOf", "(I)I"⟩ prog_11_method_3_code 2 (Option.some .int) : Cond) ∈ TB := TB_mem 724 (by decide +kernel) (by decide +kernel)
theorem kmL_50 : (.methodLink "FontListLaw" 50 ⟨"FontList", "customs", "(III)Z"⟩ : Cond) ∈ TB := TB_mem 725 (by decide +kernel) (by decide +kernel)
theorem kiX11_customs : (.instanceMethod ⟨"FontList", "customs", "(III)Z"⟩ : Cond) ∈ TB := TB_mem 726 (by decide +kernel) (by decide +kernel)
theorem kcX11_customs : (.code ⟨"FontList", "customs", "(III)Z"⟩ prog_1_method_10_code 4 (Option.some .boolean) : Cond) ∈ TB := TB_mem 728 (by decide +kernel) (by decide +kernel)
theorem km11_160 : (.methodLink "FontList" 160 ⟨"FontList$Usage", "tell", "(III)V"⟩ : Cond) ∈ TB := TB_mem 729 (by decide +kernel) (by decide +kernel)
theorem kiX9_tell : (.instanceMethod ⟨"FontList$Usage", "tell", "(III)V"⟩ : Cond) ∈ TB := TB_mem 730 (by decide +kernel) (by decide +kernel)
theorem kcX9_tell : (.code ⟨"FontList$Usage", "tell", "(III)V"⟩ prog_11_method_2_code 4 (Option.none : Option Jvm.ClassFile.FieldType) : Cond) ∈ TB := TB_mem 732 (by decide +kernel) (by decide +kernel)
theorem kmL_54 : (.methodLink "FontListLaw" 54 ⟨"FontList", "tie", "(II)I"⟩ : Cond) ∈ TB := TB_mem 733 (by decide +kernel) (by decide +kernel)
theorem kiX11_tie : (.instanceMethod ⟨"FontList", "tie", "(II)I"⟩ : Cond) ∈ TB := TB_mem 734 (by decide +kernel) (by decide +kernel)
theorem kcX11_tie : (.code ⟨"FontList", "tie", "(II)I"⟩ prog_1_method_11_code 3 (Option.some .int) : Cond) ∈ TB := TB_mem 736 (by decide +kernel) (by decide +kernel)
theorem km11_163 : (.methodLink "FontList" 163 ⟨"FontList$Books", "canTie", "(II)Z"⟩ : Cond) ∈ TB := TB_mem 737 (by decide +kernel) (by decide +kernel)
theorem kiX0_canTie : (.instanceMethod ⟨"FontList$Books", "canTie", "(II)Z"⟩ : Cond) ∈ TB := TB_mem 738 (by decide +kernel) (by decide +kernel)
theorem kcX0_canTie : (.code ⟨"FontList$Books", "canTie", "(II)Z"⟩ prog_2_method_3_code 3 (Option.some .boolean) : Cond) ∈ TB := TB_mem 740 (by decide +kernel) (by decide +kernel)
theorem kmL_58 : (.methodLink "FontListLaw" 58 ⟨"FontList", "family", "(II)I"⟩ : Cond) ∈ TB := TB_mem 741 (by decide +kernel) (by decide +kernel)
theorem kiX11_family : (.instanceMethod ⟨"FontList", "family", "(II)I"⟩ : Cond) ∈ TB := TB_mem 742 (by decide +kernel) (by decide +kernel)
theorem kcX11_family : (.code ⟨"FontList", "family", "(II)I"⟩ prog_1_method_12_code 3 (Option.some .int) : Cond) ∈ TB := TB_mem 744 (by decide +kernel) (by decide +kernel)
theorem km11_166 : (.methodLink "FontList" 166 ⟨"FontList$Books", "knows", "(II)Z"⟩ : Cond) ∈ TB := TB_mem 745 (by decide +kernel) (by decide +kernel)
theorem kiX0_knows : (.instanceMethod ⟨"FontList$Books", "knows", "(II)Z"⟩ : Cond) ∈ TB := TB_mem 746 (by decide +kernel) (by decide +kernel)
theorem kcX0_knows : (.code ⟨"FontList$Books", "knows", "(II)Z"⟩ prog_2_method_2_code 3 (Option.some .boolean) : Cond) ∈ TB := TB_mem 748 (by decide +kernel) (by decide +kernel)
theorem km0_39 : (.methodLink "FontList$Books" 39 ⟨"FontList$Couples", "has", "(I)Z"⟩ : Cond) ∈ TB := TB_mem 749 (by decide +kernel) (by decide +kernel)
theorem km11_169 : (.methodLink "FontList" 169 ⟨"FontList$Family", "gather", "(II)Z"⟩ : Cond) ∈ TB := TB_mem 750 (by decide +kernel) (by decide +kernel)
theorem kiX3_gather : (.instanceMethod ⟨"FontList$Family", "gather", "(II)Z"⟩ : Cond) ∈ TB := TB_mem 751 (by decide +kernel) (by decide +kernel)
theorem kcX3_gather : (.code ⟨"FontList$Family", "gather", "(II)Z"⟩ prog_5_method_2_code 5 (Option.some .boolean) : Cond) ∈ TB := TB_mem 753 (by decide +kernel) (by decide +kernel)
theorem km3_61 : (.methodLink "FontList$Family" 61 ⟨"FontList$Books", "canTie", "(II)Z"⟩ : Cond) ∈ TB := TB_mem 754 (by decide +kernel) (by decide +kernel)
theorem km3_65 : (.methodLink "FontList$Family" 65 ⟨"FontList$Family", "fitsElders", "(I)Z"⟩ : Cond) ∈ TB := TB_mem 755 (by decide +kernel) (by decide +kernel)
theorem kiX3_fitsElders : (.instanceMethod ⟨"FontList$Family", "fitsElders", "(I)Z"⟩ : Cond) ∈ TB := TB_mem 757 (by decide +kernel) (by decide +kernel)
theorem kcX3_fitsElders : (.code ⟨"FontList$Family", "fitsElders", "(I)Z"⟩ prog_5_method_3_code 7 (Option.some .boolean) : Cond) ∈ TB := TB_mem 758 (by decide +kernel) (by decide +kernel)
theorem km3_75 : (.methodLink "FontList$Family" 75 ⟨"FontList$Fonts", "goneBy", "(II)Z"⟩ : Cond) ∈ TB := TB_mem 759 (by decide +kernel) (by decide +kernel)
theorem kiX4_goneBy : (.instanceMethod ⟨"FontList$Fonts", "goneBy", "(II)Z"⟩ : Cond) ∈ TB := TB_mem 760 (by decide +kernel) (by decide +kernel)
theorem kcX4_goneBy : (.code ⟨"FontList$Fonts", "goneBy", "(II)Z"⟩ prog_6_method_5_code 3 (Option.some .boolean) : Cond) ∈ TB := TB_mem 762 (by decide +kernel) (by decide +kernel)
theorem kmL_62 : (.methodLink "FontListLaw" 62 ⟨"FontList", "points", "(II)I"⟩ : Cond) ∈ TB := TB_mem 763 (by decide +kernel) (by decide +kernel)
theorem kiX11_points : (.instanceMethod ⟨"FontList", "points", "(II)I"⟩ : Cond) ∈ TB := TB_mem 764 (by decide +kernel) (by decide +kernel)
theorem kcX11_points : (.code ⟨"FontList", "points", "(II)I"⟩ prog_1_method_13_code 3 (Option.some .int) : Cond) ∈ TB := TB_mem 766 (by decide +kernel) (by decide +kernel)
theorem km11_172 : (.methodLink "FontList" 172 ⟨"FontList$Family", "worth", "(IILFontList$Usage;)I"⟩ : Cond) ∈ TB := TB_mem 767 (by decide +kernel) (by decide +kernel)
theorem kiX3_worth : (.instanceMethod ⟨"FontList$Family", "worth", "(IILFontList$Usage;)I"⟩ : Cond) ∈ TB := TB_mem 768 (by decide +kernel) (by decide +kernel)
theorem kcX3_worth : (.code ⟨"FontList$Family", "worth", "(IILFontList$Usage;)I"⟩ prog_5_method_4_code 6 (Option.some .int) : Cond) ∈ TB := TB_mem 770 (by decide +kernel) (by decide +kernel)
theorem km3_78 : (.methodLink "FontList$Family" 78 ⟨"FontList$Family", "gather", "(II)Z"⟩ : Cond) ∈ TB := TB_mem 771 (by decide +kernel) (by decide +kernel)
theorem kk3_81 : (.constant "FontList$Family" 81 (-1000000) : Cond) ∈ TB := TB_mem 772 (by decide +kernel) (by decide +kernel)
theorem km3_82 : (.methodLink "FontList$Family" 82 ⟨"FontList$Family", "ask", "(LFontList$Usage;)V"⟩ : Cond) ∈ TB := TB_mem 773 (by decide +kernel) (by decide +kernel)
theorem kiX3_ask : (.instanceMethod ⟨"FontList$Family", "ask", "(LFontList$Usage;)V"⟩ : Cond) ∈ TB := TB_mem 775 (by decide +kernel) (by decide +kernel)
theorem kcX3_ask : (.code ⟨"FontList$Family", "ask", "(LFontList$Usage;)V"⟩ prog_5_method_5_code 5 (Option.none : Option Jvm.ClassFile.FieldType) : Cond) ∈ TB := TB_mem 776 (by decide +kernel) (by decide +kernel)
theorem km3_94 : (.methodLink "FontList$Family" 94 ⟨"FontList$Family", "observe", "(I)I"⟩ : Cond) ∈ TB := TB_mem 777 (by decide +kernel) (by decide +kernel)
theorem kiX3_observe : (.instanceMethod ⟨"FontList$Family", "observe", "(I)I"⟩ : Cond) ∈ TB := TB_mem 779 (by decide +kernel) (by decide +kernel)
theorem kcX3_observe : (.code ⟨"FontList$Family", "observe", "(I)I"⟩ prog_5_method_7_code 11 (Option.some .int) : Cond) ∈ TB := TB_mem 780 (by decide +kernel) (by decide +kernel)
theorem km3_124 : (.methodLink "FontList$Family" 124 ⟨"FontList$Family", "sexAt", "(I)I"⟩ : Cond) ∈ TB := TB_mem 781 (by decide +kernel) (by decide +kernel)
theorem kiX3_sexAt : (.instanceMethod ⟨"FontList$Family", "sexAt", "(I)I"⟩ : Cond) ∈ TB := TB_mem 783 (by decide +kernel) (by decide +kernel)
theorem kcX3_sexAt : (.code ⟨"FontList$Family", "sexAt", "(I)I"⟩ prog_5_method_8_code 2 (Option.some .int) : Cond) ∈ TB := TB_mem 784 (by decide +kernel) (by decide +kernel)
theorem km3_130 : (.methodLink "FontList$Family" 130 ⟨"FontList$Family", "isTwin", "(I)Z"⟩ : Cond) ∈ TB := TB_mem 785 (by decide +kernel) (by decide +kernel)
theorem kiX3_isTwin : (.instanceMethod ⟨"FontList$Family", "isTwin", "(I)Z"⟩ : Cond) ∈ TB := TB_mem 787 (by decide +kernel) (by decide +kernel)
theorem kcX3_isTwin : (.code ⟨"FontList$Family", "isTwin", "(I)Z"⟩ prog_5_method_9_code 3 (Option.some .boolean) : Cond) ∈ TB := TB_mem 788 (by decide +kernel) (by decide +kernel)
theorem km3_97 : (.methodLink "FontList$Family" 97 ⟨"FontList$Usage", "inYear", "(I)LFontList$Custom;"⟩ : Cond) ∈ TB := TB_mem 789 (by decide +kernel) (by decide +kernel)
theorem kiX9_inYear : (.instanceMethod ⟨"FontList$Usage", "inYear", "(I)LFontList$Custom;"⟩ : Cond) ∈ TB := TB_mem 790 (by decide +kernel) (by decide +kernel)
theorem kcX9_inYear : (.code ⟨"FontList$Usage", "inYear", "(I)LFontList$Custom;"⟩ prog_11_method_6_code 3 (Option.some (.object "FontList$Custom")) : Cond) ∈ TB := TB_mem 792 (by decide +kernel) (by decide +kernel)
theorem km9_34 : (.methodLink "FontList$Usage" 34 ⟨"FontList$Usage", "isTold", "(I)Z"⟩ : Cond) ∈ TB := TB_mem 793 (by decide +kernel) (by decide +kernel)
theorem kiX9_isTold : (.instanceMethod ⟨"FontList$Usage", "isTold", "(I)Z"⟩ : Cond) ∈ TB := TB_mem 794 (by decide +kernel) (by decide +kernel)
theorem kcX9_isTold : (.code ⟨"FontList$Usage", "isTold", "(I)Z"⟩ prog_11_method_4_code 2 (Option.some .boolean) : Cond) ∈ TB := TB_mem 796 (by decide +kernel) (by decide +kernel)
theorem km9_30 : (.methodLink "FontList$Usage" 30 ⟨"FontList$Usage", "clausesOf", "(I)I"⟩ : Cond) ∈ TB := TB_mem 797 (by decide +kernel) (by decide +kernel)
theorem km3_103 : (.methodLink "FontList$Family" 103 ⟨"FontList$Custom", "firstFor", "([II)I"⟩ : Cond) ∈ TB := TB_mem 798 (by decide +kernel) (by decide +kernel)
theorem kiX2_firstFor : (.instanceMethod ⟨"FontList$Custom", "firstFor", "([II)I"⟩ : Cond) ∈ TB := TB_mem 799 (by decide +kernel) (by decide +kernel)
theorem kcX2_firstFor : (.code ⟨"FontList$Custom", "firstFor", "([II)I"⟩ prog_4_method_6_code 5 (Option.some .int) : Cond) ∈ TB := TB_mem 801 (by decide +kernel) (by decide +kernel)
theorem km2_34 : (.methodLink "FontList$Custom" 34 ⟨"FontList$Custom", "holds", "(II[I)Z"⟩ : Cond) ∈ TB := TB_mem 802 (by decide +kernel) (by decide +kernel)
theorem kiX2_holds : (.instanceMethod ⟨"FontList$Custom", "holds", "(II[I)Z"⟩ : Cond) ∈ TB := TB_mem 804 (by decide +kernel) (by decide +kernel)
theorem kcX2_holds : (.code ⟨"FontList$Custom", "holds", "(II[I)Z"⟩ prog_4_method_7_code 8 (Option.some .boolean) : Cond) ∈ TB := TB_mem 805 (by decide +kernel) (by decide +kernel)
theorem km2_38 : (.methodLink "FontList$Custom" 38 ⟨"FontList$Custom", "factAt", "([II)I"⟩ : Cond) ∈ TB := TB_mem 806 (by decide +kernel) (by decide +kernel)
theorem ksX2_factAt : (.static ⟨"FontList$Custom", "factAt", "([II)I"⟩ : Cond) ∈ TB := TB_mem 807 (by decide +kernel) (by decide +kernel)
theorem kcX2_factAt : (.code ⟨"FontList$Custom", "factAt", "([II)I"⟩ prog_4_method_8_code 2 (Option.some .int) : Cond) ∈ TB := TB_mem 808 (by decide +kernel) (by decide +kernel)
theorem km2_42 : (.methodLink "FontList$Custom" 42 ⟨"java/lang/Math", "max", "(II)I"⟩ : Cond) ∈ TB := TB_mem 809 (by decide +kernel) (by decide +kernel)
theorem km2_48 : (.methodLink "FontList$Custom" 48 ⟨"FontList$Custom", "reckon", "(III)I"⟩ : Cond) ∈ TB := TB_mem 810 (by decide +kernel) (by decide +kernel)
theorem ksX2_reckon : (.static ⟨"FontList$Custom", "reckon", "(III)I"⟩ : Cond) ∈ TB := TB_mem 811 (by decide +kernel) (by decide +kernel)
theorem kcX2_reckon : (.code ⟨"FontList$Custom", "reckon", "(III)I"⟩ prog_4_method_9_code 3 (Option.some .int) : Cond) ∈ TB := TB_mem 812 (by decide +kernel) (by decide +kernel)
theorem km3_113 : (.methodLink "FontList$Family" 113 ⟨"FontList$Couples", "parentOf", "(II)I"⟩ : Cond) ∈ TB := TB_mem 813 (by decide +kernel) (by decide +kernel)
theorem kiX1_parentOf : (.instanceMethod ⟨"FontList$Couples", "parentOf", "(II)I"⟩ : Cond) ∈ TB := TB_mem 814 (by decide +kernel) (by decide +kernel)
theorem kcX1_parentOf : (.code ⟨"FontList$Couples", "parentOf", "(II)I"⟩ prog_3_method_5_code 3 (Option.some .int) : Cond) ∈ TB := TB_mem 816 (by decide +kernel) (by decide +kernel)
theorem km3_118 : (.methodLink "FontList$Family" 118 ⟨"FontList$Family", "namesFor", "(I)I"⟩ : Cond) ∈ TB := TB_mem 817 (by decide +kernel) (by decide +kernel)
theorem kiX3_namesFor : (.instanceMethod ⟨"FontList$Family", "namesFor", "(I)I"⟩ : Cond) ∈ TB := TB_mem 818 (by decide +kernel) (by decide +kernel)
theorem kcX3_namesFor : (.code ⟨"FontList$Family", "namesFor", "(I)I"⟩ prog_5_method_14_code 7 (Option.some .int) : Cond) ∈ TB := TB_mem 820 (by decide +kernel) (by decide +kernel)
theorem km3_161 : (.methodLink "FontList$Family" 161 ⟨"FontList$Family", "gainOfAll", "(II)I"⟩ : Cond) ∈ TB := TB_mem 821 (by decide +kernel) (by decide +kernel)
theorem kiX3_gainOfAll : (.instanceMethod ⟨"FontList$Family", "gainOfAll", "(II)I"⟩ : Cond) ∈ TB := TB_mem 823 (by decide +kernel) (by decide +kernel)
theorem kcX3_gainOfAll : (.code ⟨"FontList$Family", "gainOfAll", "(II)I"⟩ prog_5_method_15_code 5 (Option.some .int) : Cond) ∈ TB := TB_mem 824 (by decide +kernel) (by decide +kernel)
theorem km3_90 : (.methodLink "FontList$Family" 90 ⟨"FontList$Family", "gain", "(II)I"⟩ : Cond) ∈ TB := TB_mem 825 (by decide +kernel) (by decide +kernel)
theorem kiX3_gain : (.instanceMethod ⟨"FontList$Family", "gain", "(II)I"⟩ : Cond) ∈ TB := TB_mem 827 (by decide +kernel) (by decide +kernel)
theorem kcX3_gain : (.code ⟨"FontList$Family", "gain", "(II)I"⟩ prog_5_method_13_code 4 (Option.some .int) : Cond) ∈ TB := TB_mem 828 (by decide +kernel) (by decide +kernel)
theorem km3_164 : (.methodLink "FontList$Family" 164 ⟨"java/lang/Math", "max", "(II)I"⟩ : Cond) ∈ TB := TB_mem 829 (by decide +kernel) (by decide +kernel)
theorem km3_121 : (.methodLink "FontList$Family" 121 ⟨"FontList$Family", "lowest", "(I)I"⟩ : Cond) ∈ TB := TB_mem 830 (by decide +kernel) (by decide +kernel)
theorem ksX3_lowest : (.static ⟨"FontList$Family", "lowest", "(I)I"⟩ : Cond) ∈ TB := TB_mem 831 (by decide +kernel) (by decide +kernel)
theorem kcX3_lowest : (.code ⟨"FontList$Family", "lowest", "(I)I"⟩ prog_5_method_6_code 2 (Option.some .int) : Cond) ∈ TB := TB_mem 832 (by decide +kernel) (by decide +kernel)
theorem km3_86 : (.methodLink "FontList$Family" 86 ⟨"FontList$Family", "due", "(I)I"⟩ : Cond) ∈ TB := TB_mem 833 (by decide +kernel) (by decide +kernel)
theorem kiX3_due : (.instanceMethod ⟨"FontList$Family", "due", "(I)I"⟩ : Cond) ∈ TB := TB_mem 834 (by decide +kernel) (by decide +kernel)
theorem kcX3_due : (.code ⟨"FontList$Family", "due", "(I)I"⟩ prog_5_method_12_code 3 (Option.some .int) : Cond) ∈ TB := TB_mem 836 (by decide +kernel) (by decide +kernel)
theorem km3_145 : (.methodLink "FontList$Family" 145 ⟨"FontList$Family", "letterAt", "(I)I"⟩ : Cond) ∈ TB := TB_mem 837 (by decide +kernel) (by decide +kernel)
theorem kiX3_letterAt : (.instanceMethod ⟨"FontList$Family", "letterAt", "(I)I"⟩ : Cond) ∈ TB := TB_mem 838 (by decide +kernel) (by decide +kernel)
theorem kcX3_letterAt : (.code ⟨"FontList$Family", "letterAt", "(I)I"⟩ prog_5_method_11_code 2 (Option.some .int) : Cond) ∈ TB := TB_mem 840 (by decide +kernel) (by decide +kernel)
theorem kk11_176 : (.constant "FontList" 176 (-1000000) : Cond) ∈ TB := TB_mem 841 (by decide +kernel) (by decide +kernel)
theorem kmL_66 : (.methodLink "FontListLaw" 66 ⟨"FontList", "by", "(III)I"⟩ : Cond) ∈ TB := TB_mem 842 (by decide +kernel) (by decide +kernel)
theorem kiX11_by : (.instanceMethod ⟨"FontList", "by", "(III)I"⟩ : Cond) ∈ TB := TB_mem 843 (by decide +kernel) (by decide +kernel)
theorem kcX11_by : (.code ⟨"FontList", "by", "(III)I"⟩ prog_1_method_14_code 6 (Option.some .int) : Cond) ∈ TB := TB_mem 845 (by decide +kernel) (by decide +kernel)
theorem km11_177 : (.methodLink "FontList" 177 ⟨"FontList", "placeAsked", "(III)I"⟩ : Cond) ∈ TB := TB_mem 846 (by decide +kernel) (by decide +kernel)
theorem kiX11_placeAsked : (.instanceMethod ⟨"FontList", "placeAsked", "(III)I"⟩ : Cond) ∈ TB := TB_mem 848 (by decide +kernel) (by decide +kernel)
theorem kcX11_placeAsked : (.code ⟨"FontList", "placeAsked", "(III)I"⟩ prog_1_method_16_code 4 (Option.some .int) : Cond) ∈ TB := TB_mem 849 (by decide +kernel) (by decide +kernel)
theorem km11_199 : (.methodLink "FontList" 199 ⟨"FontList$Family", "placeOf", "(I)I"⟩ : Cond) ∈ TB := TB_mem 850 (by decide +kernel) (by decide +kernel)
theorem kiX3_placeOf : (.instanceMethod ⟨"FontList$Family", "placeOf", "(I)I"⟩ : Cond) ∈ TB := TB_mem 851 (by decide +kernel) (by decide +kernel)
theorem kcX3_placeOf : (.code ⟨"FontList$Family", "placeOf", "(I)I"⟩ prog_5_method_10_code 3 (Option.some .int) : Cond) ∈ TB := TB_mem 853 (by decide +kernel) (by decide +kernel)
theorem km11_181 : (.methodLink "FontList" 181 ⟨"FontList$Family", "letterAt", "(I)I"⟩ : Cond) ∈ TB := TB_mem 854 (by decide +kernel) (by decide +kernel)
theorem km11_186 : (.methodLink "FontList" 186 ⟨"java/lang/String", "length", "()I"⟩ : Cond) ∈ TB := TB_mem 856 (by decide +kernel) (by decide +kernel)
theorem km11_192 : (.methodLink "FontList" 192 ⟨"java/lang/String", "charAt", "(I)C"⟩ : Cond) ∈ TB := TB_mem 857 (by decide +kernel) (by decide +kernel)
theorem kmL_71 : (.methodLink "FontListLaw" 71 ⟨"FontList", "should", "(III)I"⟩ : Cond) ∈ TB := TB_mem 877 (by decide +kernel) (by decide +kernel)
theorem kiX11_should : (.instanceMethod ⟨"FontList", "should", "(III)I"⟩ : Cond) ∈ TB := TB_mem 878 (by decide +kernel) (by decide +kernel)
theorem kcX11_should : (.code ⟨"FontList", "should", "(III)I"⟩ prog_1_method_15_code 5 (Option.some .int) : Cond) ∈ TB := TB_mem 880 (by decide +kernel) (by decide +kernel)
theorem km11_196 : (.methodLink "FontList" 196 ⟨"FontList$Family", "due", "(I)I"⟩ : Cond) ∈ TB := TB_mem 881 (by decide +kernel) (by decide +kernel)
theorem kmL_75 : (.methodLink "FontListLaw" 75 ⟨"FontList", "best", "(I)I"⟩ : Cond) ∈ TB := TB_mem 882 (by decide +kernel) (by decide +kernel)
theorem kiX11_best : (.instanceMethod ⟨"FontList", "best", "(I)I"⟩ : Cond) ∈ TB := TB_mem 883 (by decide +kernel) (by decide +kernel)
theorem kcX11_best : (.code ⟨"FontList", "best", "(I)I"⟩ prog_1_method_17_code 2 (Option.some .int) : Cond) ∈ TB := TB_mem 885 (by decide +kernel) (by decide +kernel)
theorem km11_202 : (.methodLink "FontList" 202 ⟨"FontList$Ways", "settle", "(LFontList$Usage;)V"⟩ : Cond) ∈ TB := TB_mem 886 (by decide +kernel) (by decide +kernel)
theorem kiX10_settle : (.instanceMethod ⟨"FontList$Ways", "settle", "(LFontList$Usage;)V"⟩ : Cond) ∈ TB := TB_mem 887 (by decide +kernel) (by decide +kernel)
theorem kcX10_settle : (.code ⟨"FontList$Ways", "settle", "(LFontList$Usage;)V"⟩ prog_12_method_5_code 6 (Option.none : Option Jvm.ClassFile.FieldType) : Cond) ∈ TB := TB_mem 889 (by decide +kernel) (by decide +kernel)
theorem km10_65 : (.methodLink "FontList$Ways" 65 ⟨"FontList$Ways", "whole", "()I"⟩ : Cond) ∈ TB := TB_mem 890 (by decide +kernel) (by decide +kernel)
theorem kiX10_whole : (.instanceMethod ⟨"FontList$Ways", "whole", "()I"⟩ : Cond) ∈ TB := TB_mem 892 (by decide +kernel) (by decide +kernel)
theorem kcX10_whole : (.code ⟨"FontList$Ways", "whole", "()I"⟩ prog_12_method_4_code 1 (Option.some .int) : Cond) ∈ TB := TB_mem 893 (by decide +kernel) (by decide +kernel)
theorem km10_69 : (.methodLink "FontList$Ways" 69 ⟨"FontList$Ways", "startEmpty", "(I)V"⟩ : Cond) ∈ TB := TB_mem 894 (by decide +kernel) (by decide +kernel)
theorem kiX10_startEmpty : (.instanceMethod ⟨"FontList$Ways", "startEmpty", "(I)V"⟩ : Cond) ∈ TB := TB_mem 896 (by decide +kernel) (by decide +kernel)
theorem kcX10_startEmpty : (.code ⟨"FontList$Ways", "startEmpty", "(I)V"⟩ prog_12_method_6_code 3 (Option.none : Option Jvm.ClassFile.FieldType) : Cond) ∈ TB := TB_mem 897 (by decide +kernel) (by decide +kernel)
theorem kk10_100 : (.constant "FontList$Ways" 100 (-1000000) : Cond) ∈ TB := TB_mem 898 (by decide +kernel) (by decide +kernel)
theorem km10_80 : (.methodLink "FontList$Ways" 80 ⟨"FontList$Books", "tiesOf", "(I)I"⟩ : Cond) ∈ TB := TB_mem 899 (by decide +kernel) (by decide +kernel)
theorem kiX0_tiesOf : (.instanceMethod ⟨"FontList$Books", "tiesOf", "(I)I"⟩ : Cond) ∈ TB := TB_mem 900 (by decide +kernel) (by decide +kernel)
theorem kcX0_tiesOf : (.code ⟨"FontList$Books", "tiesOf", "(I)I"⟩ prog_2_method_4_code 4 (Option.some .int) : Cond) ∈ TB := TB_mem 902 (by decide +kernel) (by decide +kernel)
theorem km0_68 : (.methodLink "FontList$Books" 68 ⟨"FontList$Books", "canTie", "(II)Z"⟩ : Cond) ∈ TB := TB_mem 903 (by decide +kernel) (by decide +kernel)
theorem km10_83 : (.methodLink "FontList$Ways" 83 ⟨"FontList$Family", "worth", "(IILFontList$Usage;)I"⟩ : Cond) ∈ TB := TB_mem 904 (by decide +kernel) (by decide +kernel)
theorem km10_88 : (.methodLink "FontList$Ways" 88 ⟨"FontList$Ways", "widen", "(III)V"⟩ : Cond) ∈ TB := TB_mem 905 (by decide +kernel) (by decide +kernel)
theorem kiX10_widen : (.instanceMethod ⟨"FontList$Ways", "widen", "(III)V"⟩ : Cond) ∈ TB := TB_mem 907 (by decide +kernel) (by decide +kernel)
theorem kcX10_widen : (.code ⟨"FontList$Ways", "widen", "(III)V"⟩ prog_12_method_7_code 18 (Option.none : Option Jvm.ClassFile.FieldType) : Cond) ∈ TB := TB_mem 908 (by decide +kernel) (by decide +kernel)
theorem km10_101 : (.methodLink "FontList$Ways" 101 ⟨"java/lang/Math", "max", "(II)I"⟩ : Cond) ∈ TB := TB_mem 909 (by decide +kernel) (by decide +kernel)
theorem km10_107 : (.methodLink "FontList$Ways" 107 ⟨"java/lang/Math", "min", "(II)I"⟩ : Cond) ∈ TB := TB_mem 910 (by decide +kernel) (by decide +kernel)
theorem km10_110 : (.methodLink "FontList$Ways" 110 ⟨"FontList$Ways", "shared", "(II)I"⟩ : Cond) ∈ TB := TB_mem 911 (by decide +kernel) (by decide +kernel)
theorem ksX10_shared : (.static ⟨"FontList$Ways", "shared", "(II)I"⟩ : Cond) ∈ TB := TB_mem 912 (by decide +kernel) (by decide +kernel)
theorem kcX10_shared : (.code ⟨"FontList$Ways", "shared", "(II)I"⟩ prog_12_method_8_code 4 (Option.some .int) : Cond) ∈ TB := TB_mem 913 (by decide +kernel) (by decide +kernel)
theorem kk10_113 : (.constant "FontList$Ways" 113 153391689 : Cond) ∈ TB := TB_mem 914 (by decide +kernel) (by decide +kernel)
theorem km10_95 : (.methodLink "FontList$Ways" 95 ⟨"java/lang/Integer", "bitCount", "(I)I"⟩ : Cond) ∈ TB := TB_mem 915 (by decide +kernel) (by decide +kernel)
theorem km11_206 : (.methodLink "FontList" 206 ⟨"FontList$Ways", "coupleOf", "(I)I"⟩ : Cond) ∈ TB := TB_mem 921 (by decide +kernel) (by decide +kernel)
theorem kiX10_coupleOf : (.instanceMethod ⟨"FontList$Ways", "coupleOf", "(I)I"⟩ : Cond) ∈ TB := TB_mem 922 (by decide +kernel) (by decide +kernel)
theorem kcX10_coupleOf : (.code ⟨"FontList$Ways", "coupleOf", "(I)I"⟩ prog_12_method_9_code 2 (Option.some .int) : Cond) ∈ TB := TB_mem 924 (by decide +kernel) (by decide +kernel)
theorem kmL_80 : (.methodLink "FontListLaw" 80 ⟨"FontList", "ways", "(I)J"⟩ : Cond) ∈ TB := TB_mem 925 (by decide +kernel) (by decide +kernel)
theorem kiX11_ways : (.instanceMethod ⟨"FontList", "ways", "(I)J"⟩ : Cond) ∈ TB := TB_mem 926 (by decide +kernel) (by decide +kernel)
theorem kcX11_ways : (.code ⟨"FontList", "ways", "(I)J"⟩ prog_1_method_18_code 2 (Option.some .long) : Cond) ∈ TB := TB_mem 928 (by decide +kernel) (by decide +kernel)
theorem kk11_209 : (.constantLong "FontList" 209 (-1) : Cond) ∈ TB := TB_mem 929 (by decide +kernel) (by decide +kernel)
theorem km11_211 : (.methodLink "FontList" 211 ⟨"FontList$Ways", "mostPoints", "()I"⟩ : Cond) ∈ TB := TB_mem 930 (by decide +kernel) (by decide +kernel)
theorem kiX10_mostPoints : (.instanceMethod ⟨"FontList$Ways", "mostPoints", "()I"⟩ : Cond) ∈ TB := TB_mem 931 (by decide +kernel) (by decide +kernel)
theorem kcX10_mostPoints : (.code ⟨"FontList$Ways", "mostPoints", "()I"⟩ prog_12_method_12_code 1 (Option.some .int) : Cond) ∈ TB := TB_mem 933 (by decide +kernel) (by decide +kernel)
theorem km11_214 : (.methodLink "FontList" 214 ⟨"FontList$Ways", "howManyBest", "()J"⟩ : Cond) ∈ TB := TB_mem 934 (by decide +kernel) (by decide +kernel)
theorem kiX10_howManyBest : (.instanceMethod ⟨"FontList$Ways", "howManyBest", "()J"⟩ : Cond) ∈ TB := TB_mem 935 (by decide +kernel) (by decide +kernel)
theorem kcX10_howManyBest : (.code ⟨"FontList$Ways", "howManyBest", "()J"⟩ prog_12_method_13_code 1 (Option.some .long) : Cond) ∈ TB := TB_mem 937 (by decide +kernel) (by decide +kernel)
theorem km11_218 : (.methodLink "FontList" 218 ⟨"FontList$Ways", "howMany", "()J"⟩ : Cond) ∈ TB := TB_mem 938 (by decide +kernel) (by decide +kernel)
theorem kiX10_howMany : (.instanceMethod ⟨"FontList$Ways", "howMany", "()J"⟩ : Cond) ∈ TB := TB_mem 939 (by decide +kernel) (by decide +kernel)
theorem kcX10_howMany : (.code ⟨"FontList$Ways", "howMany", "()J"⟩ prog_12_method_14_code 1 (Option.some .long) : Cond) ∈ TB := TB_mem 941 (by decide +kernel) (by decide +kernel)
theorem km11_221 : (.methodLink "FontList" 221 ⟨"FontList$Ways", "gap", "()I"⟩ : Cond) ∈ TB := TB_mem 942 (by decide +kernel) (by decide +kernel)
theorem kiX10_gap : (.instanceMethod ⟨"FontList$Ways", "gap", "()I"⟩ : Cond) ∈ TB := TB_mem 943 (by decide +kernel) (by decide +kernel)
theorem kcX10_gap : (.code ⟨"FontList$Ways", "gap", "()I"⟩ prog_12_method_15_code 2 (Option.some .int) : Cond) ∈ TB := TB_mem 945 (by decide +kernel) (by decide +kernel)
theorem km10_117 : (.methodLink "FontList$Ways" 117 ⟨"FontList$Ways", "mostPoints", "()I"⟩ : Cond) ∈ TB := TB_mem 946 (by decide +kernel) (by decide +kernel)
theorem kmL_85 : (.methodLink "FontListLaw" 85 ⟨"FontList", "sure", "(II)I"⟩ : Cond) ∈ TB := TB_mem 947 (by decide +kernel) (by decide +kernel)
theorem kiX11_sure : (.instanceMethod ⟨"FontList", "sure", "(II)I"⟩ : Cond) ∈ TB := TB_mem 948 (by decide +kernel) (by decide +kernel)
theorem kcX11_sure : (.code ⟨"FontList", "sure", "(II)I"⟩ prog_1_method_19_code 3 (Option.some .int) : Cond) ∈ TB := TB_mem 950 (by decide +kernel) (by decide +kernel)
theorem km11_224 : (.methodLink "FontList" 224 ⟨"FontList$Ways", "alwaysOf", "(I)I"⟩ : Cond) ∈ TB := TB_mem 951 (by decide +kernel) (by decide +kernel)
theorem kiX10_alwaysOf : (.instanceMethod ⟨"FontList$Ways", "alwaysOf", "(I)I"⟩ : Cond) ∈ TB := TB_mem 952 (by decide +kernel) (by decide +kernel)
theorem kcX10_alwaysOf : (.code ⟨"FontList$Ways", "alwaysOf", "(I)I"⟩ prog_12_method_10_code 2 (Option.some .int) : Cond) ∈ TB := TB_mem 954 (by decide +kernel) (by decide +kernel)
theorem kmL_89 : (.methodLink "FontListLaw" 89 ⟨"FontList", "grand", "(II)I"⟩ : Cond) ∈ TB := TB_mem 955 (by decide +kernel) (by decide +kernel)
theorem kiX11_grand : (.instanceMethod ⟨"FontList", "grand", "(II)I"⟩ : Cond) ∈ TB := TB_mem 956 (by decide +kernel) (by decide +kernel)
theorem kcX11_grand : (.code ⟨"FontList", "grand", "(II)I"⟩ prog_1_method_20_code 4 (Option.some .int) : Cond) ∈ TB := TB_mem 958 (by decide +kernel) (by decide +kernel)
theorem km11_227 : (.methodLink "FontList" 227 ⟨"FontList$Couples", "parentOf", "(II)I"⟩ : Cond) ∈ TB := TB_mem 959 (by decide +kernel) (by decide +kernel)
theorem km11_230 : (.methodLink "FontList" 230 ⟨"FontList$Ways", "familyOf", "(I)I"⟩ : Cond) ∈ TB := TB_mem 960 (by decide +kernel) (by decide +kernel)
theorem kiX10_familyOf : (.instanceMethod ⟨"FontList$Ways", "familyOf", "(I)I"⟩ : Cond) ∈ TB := TB_mem 961 (by decide +kernel) (by decide +kernel)
theorem kcX10_familyOf : (.code ⟨"FontList$Ways", "familyOf", "(I)I"⟩ prog_12_method_11_code 4 (Option.some .int) : Cond) ∈ TB := TB_mem 963 (by decide +kernel) (by decide +kernel)
theorem km10_114 : (.methodLink "FontList$Ways" 114 ⟨"FontList$Ways", "coupleOf", "(I)I"⟩ : Cond) ∈ TB := TB_mem 964 (by decide +kernel) (by decide +kernel)
theorem km11_233 : (.methodLink "FontList" 233 ⟨"FontList$Family", "namesFor", "(I)I"⟩ : Cond) ∈ TB := TB_mem 965 (by decide +kernel) (by decide +kernel)
theorem kmL_93 : (.methodLink "FontListLaw" 93 ⟨"FontList", "must", "(III)I"⟩ : Cond) ∈ TB := TB_mem 966 (by decide +kernel) (by decide +kernel)
theorem kiX11_must : (.instanceMethod ⟨"FontList", "must", "(III)I"⟩ : Cond) ∈ TB := TB_mem 967 (by decide +kernel) (by decide +kernel)
theorem kcX11_must : (.code ⟨"FontList", "must", "(III)I"⟩ prog_1_method_21_code 4 (Option.some .int) : Cond) ∈ TB := TB_mem 969 (by decide +kernel) (by decide +kernel)
theorem km11_236 : (.methodLink "FontList" 236 ⟨"FontList$Family", "missing", "(ILFontList$Usage;)I"⟩ : Cond) ∈ TB := TB_mem 970 (by decide +kernel) (by decide +kernel)
theorem kiX3_missing : (.instanceMethod ⟨"FontList$Family", "missing", "(ILFontList$Usage;)I"⟩ : Cond) ∈ TB := TB_mem 971 (by decide +kernel) (by decide +kernel)
theorem kcX3_missing : (.code ⟨"FontList$Family", "missing", "(ILFontList$Usage;)I"⟩ prog_5_method_16_code 6 (Option.some .int) : Cond) ∈ TB := TB_mem 973 (by decide +kernel) (by decide +kernel)
theorem km3_169 : (.methodLink "FontList$Family" 169 ⟨"FontList$Family", "foresee", "(LFontList$Usage;)V"⟩ : Cond) ∈ TB := TB_mem 974 (by decide +kernel) (by decide +kernel)
theorem kiX3_foresee : (.instanceMethod ⟨"FontList$Family", "foresee", "(LFontList$Usage;)V"⟩ : Cond) ∈ TB := TB_mem 976 (by decide +kernel) (by decide +kernel)
theorem kcX3_foresee : (.code ⟨"FontList$Family", "foresee", "(LFontList$Usage;)V"⟩ prog_5_method_18_code 6 (Option.none : Option Jvm.ClassFile.FieldType) : Cond) ∈ TB := TB_mem 977 (by decide +kernel) (by decide +kernel)
theorem km3_172 : (.methodLink "FontList$Family" 172 ⟨"FontList$Family", "mayHold", "(II)Z"⟩ : Cond) ∈ TB := TB_mem 978 (by decide +kernel) (by decide +kernel)
theorem kiX3_mayHold : (.instanceMethod ⟨"FontList$Family", "mayHold", "(II)Z"⟩ : Cond) ∈ TB := TB_mem 980 (by decide +kernel) (by decide +kernel)
theorem kcX3_mayHold : (.code ⟨"FontList$Family", "mayHold", "(II)Z"⟩ prog_5_method_17_code 4 (Option.some .boolean) : Cond) ∈ TB := TB_mem 981 (by decide +kernel) (by decide +kernel)
theorem km3_181 : (.methodLink "FontList$Family" 181 ⟨"FontList$Names", "has", "(II)Z"⟩ : Cond) ∈ TB := TB_mem 982 (by decide +kernel) (by decide +kernel)
theorem km3_175 : (.methodLink "FontList$Family" 175 ⟨"FontList$Family", "fewest", "(I)I"⟩ : Cond) ∈ TB := TB_mem 983 (by decide +kernel) (by decide +kernel)
theorem kiX3_fewest : (.instanceMethod ⟨"FontList$Family", "fewest", "(I)I"⟩ : Cond) ∈ TB := TB_mem 985 (by decide +kernel) (by decide +kernel)
theorem kcX3_fewest : (.code ⟨"FontList$Family", "fewest", "(I)I"⟩ prog_5_method_19_code 4 (Option.some .int) : Cond) ∈ TB := TB_mem 986 (by decide +kernel) (by decide +kernel)
theorem km3_184 : (.methodLink "FontList$Family" 184 ⟨"FontList$Family", "suits", "(II)Z"⟩ : Cond) ∈ TB := TB_mem 987 (by decide +kernel) (by decide +kernel)
theorem kiX3_suits : (.instanceMethod ⟨"FontList$Family", "suits", "(II)Z"⟩ : Cond) ∈ TB := TB_mem 989 (by decide +kernel) (by decide +kernel)
theorem kcX3_suits : (.code ⟨"FontList$Family", "suits", "(II)Z"⟩ prog_5_method_20_code 4 (Option.some .boolean) : Cond) ∈ TB := TB_mem 990 (by decide +kernel) (by decide +kernel)
theorem km3_178 : (.methodLink "FontList$Family" 178 ⟨"java/lang/Math", "min", "(II)I"⟩ : Cond) ∈ TB := TB_mem 991 (by decide +kernel) (by decide +kernel)
theorem kmL_97 : (.methodLink "FontListLaw" 97 ⟨"FontList", "judge", "()I"⟩ : Cond) ∈ TB := TB_mem 992 (by decide +kernel) (by decide +kernel)
theorem kiX11_judge : (.instanceMethod ⟨"FontList", "judge", "()I"⟩ : Cond) ∈ TB := TB_mem 993 (by decide +kernel) (by decide +kernel)
theorem kcX11_judge : (.code ⟨"FontList", "judge", "()I"⟩ prog_1_method_22_code 2 (Option.some .int) : Cond) ∈ TB := TB_mem 995 (by decide +kernel) (by decide +kernel)
theorem km11_241 : (.methodLink "FontList" 241 ⟨"FontList$Row", "take", "(LFontList$Tape;)I"⟩ : Cond) ∈ TB := TB_mem 996 (by decide +kernel) (by decide +kernel)
theorem kiX7_take : (.instanceMethod ⟨"FontList$Row", "take", "(LFontList$Tape;)I"⟩ : Cond) ∈ TB := TB_mem 997 (by decide +kernel) (by decide +kernel)
theorem kcX7_take : (.code ⟨"FontList$Row", "take", "(LFontList$Tape;)I"⟩ prog_9_method_2_code 6 (Option.some .int) : Cond) ∈ TB := TB_mem 999 (by decide +kernel) (by decide +kernel)
theorem km7_35 : (.methodLink "FontList$Row" 35 ⟨"FontList$Tape", "at", "(I)I"⟩ : Cond) ∈ TB := TB_mem 1000 (by decide +kernel) (by decide +kernel)
theorem km7_45 : (.methodLink "FontList$Row" 45 ⟨"FontList$Couples", "has", "(I)Z"⟩ : Cond) ∈ TB := TB_mem 1001 (by decide +kernel) (by decide +kernel)
theorem km7_51 : (.methodLink "FontList$Row" 51 ⟨"FontList$Books", "canTie", "(II)Z"⟩ : Cond) ∈ TB := TB_mem 1002 (by decide +kernel) (by decide +kernel)
theorem km7_55 : (.methodLink "FontList$Row" 55 ⟨"FontList$Tape", "clear", "()V"⟩ : Cond) ∈ TB := TB_mem 1003 (by decide +kernel) (by decide +kernel)
theorem km7_58 : (.methodLink "FontList$Row" 58 ⟨"FontList$Row", "firstBroken", "()I"⟩ : Cond) ∈ TB := TB_mem 1004 (by decide +kernel) (by decide +kernel)
theorem kiX7_firstBroken : (.instanceMethod ⟨"FontList$Row", "firstBroken", "()I"⟩ : Cond) ∈ TB := TB_mem 1006 (by decide +kernel) (by decide +kernel)
theorem kcX7_firstBroken : (.code ⟨"FontList$Row", "firstBroken", "()I"⟩ prog_9_method_3_code 2 (Option.some .int) : Cond) ∈ TB := TB_mem 1007 (by decide +kernel) (by decide +kernel)
theorem km7_64 : (.methodLink "FontList$Row" 64 ⟨"FontList$Family", "gather", "(II)Z"⟩ : Cond) ∈ TB := TB_mem 1008 (by decide +kernel) (by decide +kernel)
theorem kk7_69 : (.constant "FontList$Row" 69 (-3000000) : Cond) ∈ TB := TB_mem 1009 (by decide +kernel) (by decide +kernel)
theorem kk7_62 : (.constant "FontList$Row" 62 (-2000000) : Cond) ∈ TB := TB_mem 1010 (by decide +kernel) (by decide +kernel)
theorem km11_245 : (.methodLink "FontList" 245 ⟨"FontList$Row", "worthBy", "(LFontList$Usage;)I"⟩ : Cond) ∈ TB := TB_mem 1011 (by decide +kernel) (by decide +kernel)
theorem kiX7_worthBy : (.instanceMethod ⟨"FontList$Row", "worthBy", "(LFontList$Usage;)I"⟩ : Cond) ∈ TB := TB_mem 1012 (by decide +kernel) (by decide +kernel)
theorem kcX7_worthBy : (.code ⟨"FontList$Row", "worthBy", "(LFontList$Usage;)I"⟩ prog_9_method_4_code 4 (Option.some .int) : Cond) ∈ TB := TB_mem 1014 (by decide +kernel) (by decide +kernel)
theorem km7_73 : (.methodLink "FontList$Row" 73 ⟨"java/lang/Integer", "bitCount", "(I)I"⟩ : Cond) ∈ TB := TB_mem 1015 (by decide +kernel) (by decide +kernel)
theorem km7_78 : (.methodLink "FontList$Row" 78 ⟨"FontList$Family", "worth", "(IILFontList$Usage;)I"⟩ : Cond) ∈ TB := TB_mem 1016 (by decide +kernel) (by decide +kernel)
theorem kmL_102 : (.methodLink "FontListLaw" 102 ⟨"FontList", "learnt", "(III)I"⟩ : Cond) ∈ TB := TB_mem 1017 (by decide +kernel) (by decide +kernel)
theorem kiX11_learnt : (.instanceMethod ⟨"FontList", "learnt", "(III)I"⟩ : Cond) ∈ TB := TB_mem 1018 (by decide +kernel) (by decide +kernel)
theorem kcX11_learnt : (.code ⟨"FontList", "learnt", "(III)I"⟩ prog_1_method_23_code 5 (Option.some .int) : Cond) ∈ TB := TB_mem 1020 (by decide +kernel) (by decide +kernel)
theorem km11_249 : (.methodLink "FontList" 249 ⟨"FontList$Usage", "anyTold", "()Z"⟩ : Cond) ∈ TB := TB_mem 1021 (by decide +kernel) (by decide +kernel)
theorem kiX9_anyTold : (.instanceMethod ⟨"FontList$Usage", "anyTold", "()Z"⟩ : Cond) ∈ TB := TB_mem 1022 (by decide +kernel) (by decide +kernel)
theorem kcX9_anyTold : (.code ⟨"FontList$Usage", "anyTold", "()Z"⟩ prog_11_method_5_code 2 (Option.some .boolean) : Cond) ∈ TB := TB_mem 1024 (by decide +kernel) (by decide +kernel)
theorem kk11_252 : (.constant "FontList" 252 (-2000000) : Cond) ∈ TB := TB_mem 1025 (by decide +kernel) (by decide +kernel)
theorem km11_253 : (.methodLink "FontList" 253 ⟨"FontList$Row", "learn", "(LFontList$Usage;II)I"⟩ : Cond) ∈ TB := TB_mem 1026 (by decide +kernel) (by decide +kernel)
theorem kiX7_learn : (.instanceMethod ⟨"FontList$Row", "learn", "(LFontList$Usage;II)I"⟩ : Cond) ∈ TB := TB_mem 1027 (by decide +kernel) (by decide +kernel)
theorem kcX7_learn : (.code ⟨"FontList$Row", "learn", "(LFontList$Usage;II)I"⟩ prog_9_method_5_code 14 (Option.some .int) : Cond) ∈ TB := TB_mem 1029 (by decide +kernel) (by decide +kernel)
theorem kk7_82 : (.constant "FontList$Row" 82 (-1000000) : Cond) ∈ TB := TB_mem 1030 (by decide +kernel) (by decide +kernel)
theorem km7_83 : (.methodLink "FontList$Row" 83 ⟨"FontList$Usage", "isTold", "(I)Z"⟩ : Cond) ∈ TB := TB_mem 1031 (by decide +kernel) (by decide +kernel)
theorem km7_88 : (.methodLink "FontList$Row" 88 ⟨"FontList$Fonts", "changesAt", "(I)Z"⟩ : Cond) ∈ TB := TB_mem 1032 (by decide +kernel) (by decide +kernel)
theorem kiX4_changesAt : (.instanceMethod ⟨"FontList$Fonts", "changesAt", "(I)Z"⟩ : Cond) ∈ TB := TB_mem 1033 (by decide +kernel) (by decide +kernel)
theorem kcX4_changesAt : (.code ⟨"FontList$Fonts", "changesAt", "(I)Z"⟩ prog_6_method_6_code 3 (Option.some .boolean) : Cond) ∈ TB := TB_mem 1035 (by decide +kernel) (by decide +kernel)
theorem km7_91 : (.methodLink "FontList$Row" 91 ⟨"FontList$Usage", "tell", "(III)V"⟩ : Cond) ∈ TB := TB_mem 1036 (by decide +kernel) (by decide +kernel)
theorem km7_95 : (.methodLink "FontList$Row" 95 ⟨"FontList$Row", "worthBy", "(LFontList$Usage;)I"⟩ : Cond) ∈ TB := TB_mem 1037 (by decide +kernel) (by decide +kernel)
theorem kmL_106 : (.methodLink "FontListLaw" 106 ⟨"FontList", "little", "(I)I"⟩ : Cond) ∈ TB := TB_mem 1038 (by decide +kernel) (by decide +kernel)
theorem kiX11_little : (.instanceMethod ⟨"FontList", "little", "(I)I"⟩ : Cond) ∈ TB := TB_mem 1039 (by decide +kernel) (by decide +kernel)
theorem kcX11_little : (.code ⟨"FontList", "little", "(I)I"⟩ prog_1_method_24_code 5 (Option.some .int) : Cond) ∈ TB := TB_mem 1041 (by decide +kernel) (by decide +kernel)
theorem km11_266 : (.methodLink "FontList" 266 ⟨"FontList", "fewerWithout", "(II)I"⟩ : Cond) ∈ TB := TB_mem 1042 (by decide +kernel) (by decide +kernel)
theorem kiX11_fewerWithout : (.instanceMethod ⟨"FontList", "fewerWithout", "(II)I"⟩ : Cond) ∈ TB := TB_mem 1044 (by decide +kernel) (by decide +kernel)
theorem kcX11_fewerWithout : (.code ⟨"FontList", "fewerWithout", "(II)I"⟩ prog_1_method_25_code 5 (Option.some .int) : Cond) ∈ TB := TB_mem 1045 (by decide +kernel) (by decide +kernel)
theorem kmL_110 : (.methodLink "FontListLaw" 110 ⟨"FontList", "check", "()I"⟩ : Cond) ∈ TB := TB_mem 1046 (by decide +kernel) (by decide +kernel)
theorem kiX11_check : (.instanceMethod ⟨"FontList", "check", "()I"⟩ : Cond) ∈ TB := TB_mem 1047 (by decide +kernel) (by decide +kernel)
theorem kcX11_check : (.code ⟨"FontList", "check", "()I"⟩ prog_1_method_26_code 4 (Option.some .int) : Cond) ∈ TB := TB_mem 1049 (by decide +kernel) (by decide +kernel)
theorem km11_269 : (.methodLink "FontList" 269 ⟨"FontList$Tape", "at", "(I)I"⟩ : Cond) ∈ TB := TB_mem 1050 (by decide +kernel) (by decide +kernel)
theorem kmL_114 : (.methodLink "FontListLaw" 114 ⟨"FontList", "look", "(II)I"⟩ : Cond) ∈ TB := TB_mem 1051 (by decide +kernel) (by decide +kernel)
theorem kiX11_look : (.instanceMethod ⟨"FontList", "look", "(II)I"⟩ : Cond) ∈ TB := TB_mem 1052 (by decide +kernel) (by decide +kernel)
theorem kcX11_look : (.code ⟨"FontList", "look", "(II)I"⟩ prog_1_method_27_code 3 (Option.some .int) : Cond) ∈ TB := TB_mem 1054 (by decide +kernel) (by decide +kernel)
theorem kmL_118 : (.methodLink "FontListLaw" 118 ⟨"FontList", "count", "(I)I"⟩ : Cond) ∈ TB := TB_mem 1055 (by decide +kernel) (by decide +kernel)
theorem kiX11_count : (.instanceMethod ⟨"FontList", "count", "(I)I"⟩ : Cond) ∈ TB := TB_mem 1056 (by decide +kernel) (by decide +kernel)
theorem kcX11_count : (.code ⟨"FontList", "count", "(I)I"⟩ prog_1_method_28_code 2 (Option.some .int) : Cond) ∈ TB := TB_mem 1058 (by decide +kernel) (by decide +kernel)
theorem klL_10 : (.classLink "FontListLaw" 10 "FontListModel" : Cond) ∈ TB := TB_mem 1059 (by decide +kernel) (by decide +kernel)
theorem kaX12 : (.instantiable "FontListModel" 69 : Cond) ∈ TB := TB_mem 1060 (by decide +kernel) (by decide +kernel)
theorem kmL_12 : (.methodLink "FontListLaw" 12 ⟨"FontListModel", "<init>", "()V"⟩ : Cond) ∈ TB := TB_mem 1061 (by decide +kernel) (by decide +kernel)
theorem kiX12_init : (.instanceMethod ⟨"FontListModel", "<init>", "()V"⟩ : Cond) ∈ TB := TB_mem 1062 (by decide +kernel) (by decide +kernel)
theorem kcX12_init : (.code ⟨"FontListModel", "<init>", "()V"⟩ prog_14_method_1_code 1 (Option.none : Option Jvm.ClassFile.FieldType) : Cond) ∈ TB := TB_mem 1063 (by decide +kernel) (by decide +kernel)
theorem km12_1 : (.methodLink "FontListModel" 1 ⟨"java/lang/Object", "<init>", "()V"⟩ : Cond) ∈ TB := TB_mem 1064 (by decide +kernel) (by decide +kernel)
theorem kf12_7 : (.fieldLink "FontListModel" 7 "FontListModel" "tape" "[B" : Cond) ∈ TB := TB_mem 1065 (by decide +kernel) (by decide +kernel)
theorem kf12_203 : (.fieldLink "FontListModel" 203 "FontListModel" "taped" "I" : Cond) ∈ TB := TB_mem 1066 (by decide +kernel) (by decide +kernel)
theorem kf12_161 : (.fieldLink "FontListModel" 161 "FontListModel" "names" "I" : Cond) ∈ TB := TB_mem 1067 (by decide +kernel) (by decide +kernel)
theorem kf12_172 : (.fieldLink "FontListModel" 172 "FontListModel" "couples" "I" : Cond) ∈ TB := TB_mem 1068 (by decide +kernel) (by decide +kernel)
theorem kf12_175 : (.fieldLink "FontListModel" 175 "FontListModel" "fonts" "I" : Cond) ∈ TB := TB_mem 1069 (by decide +kernel) (by decide +kernel)
theorem kf12_13 : (.fieldLink "FontListModel" 13 "FontListModel" "customA" "I" : Cond) ∈ TB := TB_mem 1070 (by decide +kernel) (by decide +kernel)
theorem kf12_17 : (.fieldLink "FontListModel" 17 "FontListModel" "customB" "I" : Cond) ∈ TB := TB_mem 1071 (by decide +kernel) (by decide +kernel)
theorem kf12_20 : (.fieldLink "FontListModel" 20 "FontListModel" "change" "I" : Cond) ∈ TB := TB_mem 1072 (by decide +kernel) (by decide +kernel)
theorem kf12_23 : (.fieldLink "FontListModel" 23 "FontListModel" "loss" "I" : Cond) ∈ TB := TB_mem 1073 (by decide +kernel) (by decide +kernel)
theorem kf12_26 : (.fieldLink "FontListModel" 26 "FontListModel" "alone" "I" : Cond) ∈ TB := TB_mem 1074 (by decide +kernel) (by decide +kernel)
theorem kf12_29 : (.fieldLink "FontListModel" 29 "FontListModel" "sex" "[I" : Cond) ∈ TB := TB_mem 1075 (by decide +kernel) (by decide +kernel)
theorem kf12_33 : (.fieldLink "FontListModel" 33 "FontListModel" "says" "[I" : Cond) ∈ TB := TB_mem 1076 (by decide +kernel) (by decide +kernel)
theorem kf12_36 : (.fieldLink "FontListModel" 36 "FontListModel" "husband" "[I" : Cond) ∈ TB := TB_mem 1077 (by decide +kernel) (by decide +kernel)
theorem kf12_39 : (.fieldLink "FontListModel" 39 "FontListModel" "wife" "[I" : Cond) ∈ TB := TB_mem 1078 (by decide +kernel) (by decide +kernel)
theorem kf12_42 : (.fieldLink "FontListModel" 42 "FontListModel" "wed" "[I" : Cond) ∈ TB := TB_mem 1079 (by decide +kernel) (by decide +kernel)
theorem kf12_45 : (.fieldLink "FontListModel" 45 "FontListModel" "until" "[I" : Cond) ∈ TB := TB_mem 1080 (by decide +kernel) (by decide +kernel)
theorem kf12_48 : (.fieldLink "FontListModel" 48 "FontListModel" "parent" "[I" : Cond) ∈ TB := TB_mem 1081 (by decide +kernel) (by decide +kernel)
theorem kf12_51 : (.fieldLink "FontListModel" 51 "FontListModel" "name" "[I" : Cond) ∈ TB := TB_mem 1082 (by decide +kernel) (by decide +kernel)
theorem kf12_54 : (.fieldLink "FontListModel" 54 "FontListModel" "year" "[I" : Cond) ∈ TB := TB_mem 1083 (by decide +kernel) (by decide +kernel)
theorem kf12_57 : (.fieldLink "FontListModel" 57 "FontListModel" "father" "[I" : Cond) ∈ TB := TB_mem 1084 (by decide +kernel) (by decide +kernel)
theorem kf12_60 : (.fieldLink "FontListModel" 60 "FontListModel" "mother" "[I" : Cond) ∈ TB := TB_mem 1085 (by decide +kernel) (by decide +kernel)
theorem kf12_63 : (.fieldLink "FontListModel" 63 "FontListModel" "sponsor" "[I" : Cond) ∈ TB := TB_mem 1086 (by decide +kernel) (by decide +kernel)
theorem kf12_66 : (.fieldLink "FontListModel" 66 "FontListModel" "died" "[I" : Cond) ∈ TB := TB_mem 1087 (by decide +kernel) (by decide +kernel)
theorem kf12_182 : (.fieldLink "FontListModel" 182 "FontListModel" "isKnown" "Z" : Cond) ∈ TB := TB_mem 1088 (by decide +kernel) (by decide +kernel)
theorem kf12_69 : (.fieldLink "FontListModel" 69 "FontListModel" "many" "[I" : Cond) ∈ TB := TB_mem 1089 (by decide +kernel) (by decide +kernel)
theorem kf12_72 : (.fieldLink "FontListModel" 72 "FontListModel" "clauseLetter" "[I" : Cond) ∈ TB := TB_mem 1090 (by decide +kernel) (by decide +kernel)
theorem kf12_75 : (.fieldLink "FontListModel" 75 "FontListModel" "codeFrom" "[I" : Cond) ∈ TB := TB_mem 1091 (by decide +kernel) (by decide +kernel)
theorem kf12_78 : (.fieldLink "FontListModel" 78 "FontListModel" "codeTo" "[I" : Cond) ∈ TB := TB_mem 1092 (by decide +kernel) (by decide +kernel)
theorem kf12_81 : (.fieldLink "FontListModel" 81 "FontListModel" "code" "[I" : Cond) ∈ TB := TB_mem 1093 (by decide +kernel) (by decide +kernel)
theorem kf12_84 : (.fieldLink "FontListModel" 84 "FontListModel" "codeArg" "[I" : Cond) ∈ TB := TB_mem 1094 (by decide +kernel) (by decide +kernel)
theorem kf12_87 : (.fieldLink "FontListModel" 87 "FontListModel" "newLetter" "[I" : Cond) ∈ TB := TB_mem 1095 (by decide +kernel) (by decide +kernel)
theorem kf12_90 : (.fieldLink "FontListModel" 90 "FontListModel" "newFrom" "[I" : Cond) ∈ TB := TB_mem 1096 (by decide +kernel) (by decide +kernel)
theorem kf12_93 : (.fieldLink "FontListModel" 93 "FontListModel" "newTo" "[I" : Cond) ∈ TB := TB_mem 1097 (by decide +kernel) (by decide +kernel)
theorem kf12_96 : (.fieldLink "FontListModel" 96 "FontListModel" "newCode" "[I" : Cond) ∈ TB := TB_mem 1098 (by decide +kernel) (by decide +kernel)
theorem kf12_99 : (.fieldLink "FontListModel" 99 "FontListModel" "newArg" "[I" : Cond) ∈ TB := TB_mem 1099 (by decide +kernel) (by decide +kernel)
theorem kf12_210 : (.fieldLink "FontListModel" 210 "FontListModel" "place" "I" : Cond) ∈ TB := TB_mem 1100 (by decide +kernel) (by decide +kernel)
theorem kf12_213 : (.fieldLink "FontListModel" 213 "FontListModel" "end" "I" : Cond) ∈ TB := TB_mem 1101 (by decide +kernel) (by decide +kernel)
theorem kf12_216 : (.fieldLink "FontListModel" 216 "FontListModel" "bad" "I" : Cond) ∈ TB := TB_mem 1102 (by decide +kernel) (by decide +kernel)
theorem kf12_305 : (.fieldLink "FontListModel" 305 "FontListModel" "clauses" "I" : Cond) ∈ TB := TB_mem 1103 (by decide +kernel) (by decide +kernel)
theorem kf12_223 : (.fieldLink "FontListModel" 223 "FontListModel" "codes" "I" : Cond) ∈ TB := TB_mem 1104 (by decide +kernel) (by decide +kernel)
theorem kf12_229 : (.fieldLink "FontListModel" 229 "FontListModel" "open" "I" : Cond) ∈ TB := TB_mem 1105 (by decide +kernel) (by decide +kernel)
theorem kf12_226 : (.fieldLink "FontListModel" 226 "FontListModel" "stacked" "I" : Cond) ∈ TB := TB_mem 1106 (by decide +kernel) (by decide +kernel)
theorem kf12_293 : (.fieldLink "FontListModel" 293 "FontListModel" "isOver" "Z" : Cond) ∈ TB := TB_mem 1107 (by decide +kernel) (by decide +kernel)
theorem kf12_275 : (.fieldLink "FontListModel" 275 "FontListModel" "isBehind" "Z" : Cond) ∈ TB := TB_mem 1108 (by decide +kernel) (by decide +kernel)
theorem kf12_102 : (.fieldLink "FontListModel" 102 "FontListModel" "stack" "[I" : Cond) ∈ TB := TB_mem 1109 (by decide +kernel) (by decide +kernel)
theorem kf12_318 : (.fieldLink "FontListModel" 318 "FontListModel" "ofCouple" "I" : Cond) ∈ TB := TB_mem 1110 (by decide +kernel) (by decide +kernel)
theorem kf12_321 : (.fieldLink "FontListModel" 321 "FontListModel" "children" "I" : Cond) ∈ TB := TB_mem 1111 (by decide +kernel) (by decide +kernel)
theorem kf12_105 : (.fieldLink "FontListModel" 105 "FontListModel" "child" "[I" : Cond) ∈ TB := TB_mem 1112 (by decide +kernel) (by decide +kernel)
theorem kf12_108 : (.fieldLink "FontListModel" 108 "FontListModel" "clauseOf" "[I" : Cond) ∈ TB := TB_mem 1113 (by decide +kernel) (by decide +kernel)
theorem kf12_111 : (.fieldLink "FontListModel" 111 "FontListModel" "nameOf" "[I" : Cond) ∈ TB := TB_mem 1114 (by decide +kernel) (by decide +kernel)
theorem kf12_114 : (.fieldLink "FontListModel" 114 "FontListModel" "worth" "[I" : Cond) ∈ TB := TB_mem 1115 (by decide +kernel) (by decide +kernel)
theorem kf12_117 : (.fieldLink "FontListModel" 117 "FontListModel" "isRefused" "[Z" : Cond) ∈ TB := TB_mem 1116 (by decide +kernel) (by decide +kernel)
theorem kf12_121 : (.fieldLink "FontListModel" 121 "FontListModel" "brought" "[I" : Cond) ∈ TB := TB_mem 1117 (by decide +kernel) (by decide +kernel)
theorem kf12_124 : (.fieldLink "FontListModel" 124 "FontListModel" "best" "[I" : Cond) ∈ TB := TB_mem 1118 (by decide +kernel) (by decide +kernel)
theorem kf12_127 : (.fieldLink "FontListModel" 127 "FontListModel" "next" "[I" : Cond) ∈ TB := TB_mem 1119 (by decide +kernel) (by decide +kernel)
theorem kf12_130 : (.fieldLink "FontListModel" 130 "FontListModel" "count" "[J" : Cond) ∈ TB := TB_mem 1120 (by decide +kernel) (by decide +kernel)
theorem kf12_134 : (.fieldLink "FontListModel" 134 "FontListModel" "total" "[J" : Cond) ∈ TB := TB_mem 1121 (by decide +kernel) (by decide +kernel)
theorem kf12_137 : (.fieldLink "FontListModel" 137 "FontListModel" "best2" "[I" : Cond) ∈ TB := TB_mem 1122 (by decide +kernel) (by decide +kernel)
theorem kf12_140 : (.fieldLink "FontListModel" 140 "FontListModel" "next2" "[I" : Cond) ∈ TB := TB_mem 1123 (by decide +kernel) (by decide +kernel)
theorem kf12_143 : (.fieldLink "FontListModel" 143 "FontListModel" "count2" "[J" : Cond) ∈ TB := TB_mem 1124 (by decide +kernel) (by decide +kernel)
theorem kf12_146 : (.fieldLink "FontListModel" 146 "FontListModel" "total2" "[J" : Cond) ∈ TB := TB_mem 1125 (by decide +kernel) (by decide +kernel)
theorem kf12_149 : (.fieldLink "FontListModel" 149 "FontListModel" "allowed" "[I" : Cond) ∈ TB := TB_mem 1126 (by decide +kernel) (by decide +kernel)
theorem kf12_424 : (.fieldLink "FontListModel" 424 "FontListModel" "bestAll" "I" : Cond) ∈ TB := TB_mem 1127 (by decide +kernel) (by decide +kernel)
theorem kf12_427 : (.fieldLink "FontListModel" 427 "FontListModel" "nextAll" "I" : Cond) ∈ TB := TB_mem 1128 (by decide +kernel) (by decide +kernel)
theorem kf12_430 : (.fieldLink "FontListModel" 430 "FontListModel" "bestCount" "J" : Cond) ∈ TB := TB_mem 1129 (by decide +kernel) (by decide +kernel)
theorem kf12_434 : (.fieldLink "FontListModel" 434 "FontListModel" "allCount" "J" : Cond) ∈ TB := TB_mem 1130 (by decide +kernel) (by decide +kernel)
theorem kf12_152 : (.fieldLink "FontListModel" 152 "FontListModel" "row" "[I" : Cond) ∈ TB := TB_mem 1131 (by decide +kernel) (by decide +kernel)
theorem kf12_155 : (.fieldLink "FontListModel" 155 "FontListModel" "can" "[Z" : Cond) ∈ TB := TB_mem 1132 (by decide +kernel) (by decide +kernel)
theorem kf12_158 : (.fieldLink "FontListModel" 158 "FontListModel" "canThen" "[Z" : Cond) ∈ TB := TB_mem 1133 (by decide +kernel) (by decide +kernel)
theorem ky_boolean : (.arrayClass .boolean : Cond) ∈ TB := TB_mem 1273 (by decide +kernel) (by decide +kernel)
theorem kmL_17 : (.methodLink "FontListLaw" 17 ⟨"FontListModel", "name", "(II)I"⟩ : Cond) ∈ TB := TB_mem 1274 (by decide +kernel) (by decide +kernel)
theorem kiX12_name : (.instanceMethod ⟨"FontListModel", "name", "(II)I"⟩ : Cond) ∈ TB := TB_mem 1275 (by decide +kernel) (by decide +kernel)
theorem kcX12_name : (.code ⟨"FontListModel", "name", "(II)I"⟩ prog_14_method_10_code 3 (Option.some .int) : Cond) ∈ TB := TB_mem 1277 (by decide +kernel) (by decide +kernel)
theorem km12_164 : (.methodLink "FontListModel" 164 ⟨"FontListModel", "lies", "(JJJ)Z"⟩ : Cond) ∈ TB := TB_mem 1278 (by decide +kernel) (by decide +kernel)
theorem ksX12_lies : (.static ⟨"FontListModel", "lies", "(JJJ)Z"⟩ : Cond) ∈ TB := TB_mem 1279 (by decide +kernel) (by decide +kernel)
theorem kcX12_lies : (.code ⟨"FontListModel", "lies", "(JJJ)Z"⟩ prog_14_method_2_code 6 (Option.some .boolean) : Cond) ∈ TB := TB_mem 1280 (by decide +kernel) (by decide +kernel)
theorem kk12_180 : (.constantLong "FontListModel" 180 100 : Cond) ∈ TB := TB_mem 1281 (by decide +kernel) (by decide +kernel)
theorem kmL_22 : (.methodLink "FontListLaw" 22 ⟨"FontListModel", "couple", "(IIII)I"⟩ : Cond) ∈ TB := TB_mem 1282 (by decide +kernel) (by decide +kernel)
theorem kiX12_couple : (.instanceMethod ⟨"FontListModel", "couple", "(IIII)I"⟩ : Cond) ∈ TB := TB_mem 1283 (by decide +kernel) (by decide +kernel)
theorem kcX12_couple : (.code ⟨"FontListModel", "couple", "(IIII)I"⟩ prog_14_method_11_code 6 (Option.some .int) : Cond) ∈ TB := TB_mem 1285 (by decide +kernel) (by decide +kernel)
theorem km12_186 : (.methodLink "FontListModel" 186 ⟨"FontListModel", "isOf", "(II)Z"⟩ : Cond) ∈ TB := TB_mem 1286 (by decide +kernel) (by decide +kernel)
theorem kiX12_isOf : (.instanceMethod ⟨"FontListModel", "isOf", "(II)Z"⟩ : Cond) ∈ TB := TB_mem 1288 (by decide +kernel) (by decide +kernel)
theorem kcX12_isOf : (.code ⟨"FontListModel", "isOf", "(II)Z"⟩ prog_14_method_6_code 3 (Option.some .boolean) : Cond) ∈ TB := TB_mem 1289 (by decide +kernel) (by decide +kernel)
theorem km12_168 : (.methodLink "FontListModel" 168 ⟨"FontListModel", "isName", "(I)Z"⟩ : Cond) ∈ TB := TB_mem 1290 (by decide +kernel) (by decide +kernel)
theorem kiX12_isName : (.instanceMethod ⟨"FontListModel", "isName", "(I)Z"⟩ : Cond) ∈ TB := TB_mem 1292 (by decide +kernel) (by decide +kernel)
theorem kcX12_isName : (.code ⟨"FontListModel", "isName", "(I)Z"⟩ prog_14_method_5_code 2 (Option.some .boolean) : Cond) ∈ TB := TB_mem 1293 (by decide +kernel) (by decide +kernel)
theorem km12_190 : (.methodLink "FontListModel" 190 ⟨"FontListModel", "isYear", "(I)Z"⟩ : Cond) ∈ TB := TB_mem 1294 (by decide +kernel) (by decide +kernel)
theorem ksX12_isYear : (.static ⟨"FontListModel", "isYear", "(I)Z"⟩ : Cond) ∈ TB := TB_mem 1295 (by decide +kernel) (by decide +kernel)
theorem kcX12_isYear : (.code ⟨"FontListModel", "isYear", "(I)Z"⟩ prog_14_method_9_code 1 (Option.some .boolean) : Cond) ∈ TB := TB_mem 1296 (by decide +kernel) (by decide +kernel)
theorem kk12_178 : (.constantLong "FontListModel" 178 299 : Cond) ∈ TB := TB_mem 1297 (by decide +kernel) (by decide +kernel)
theorem kmL_27 : (.methodLink "FontListLaw" 27 ⟨"FontListModel", "parent", "(III)Z"⟩ : Cond) ∈ TB := TB_mem 1298 (by decide +kernel) (by decide +kernel)
theorem kiX12_parent : (.instanceMethod ⟨"FontListModel", "parent", "(III)Z"⟩ : Cond) ∈ TB := TB_mem 1299 (by decide +kernel) (by decide +kernel)
theorem kcX12_parent : (.code ⟨"FontListModel", "parent", "(III)Z"⟩ prog_14_method_12_code 4 (Option.some .boolean) : Cond) ∈ TB := TB_mem 1301 (by decide +kernel) (by decide +kernel)
theorem km12_193 : (.methodLink "FontListModel" 193 ⟨"FontListModel", "isCouple", "(I)Z"⟩ : Cond) ∈ TB := TB_mem 1302 (by decide +kernel) (by decide +kernel)
theorem kiX12_isCouple : (.instanceMethod ⟨"FontListModel", "isCouple", "(I)Z"⟩ : Cond) ∈ TB := TB_mem 1304 (by decide +kernel) (by decide +kernel)
theorem kcX12_isCouple : (.code ⟨"FontListModel", "isCouple", "(I)Z"⟩ prog_14_method_7_code 2 (Option.some .boolean) : Cond) ∈ TB := TB_mem 1305 (by decide +kernel) (by decide +kernel)
theorem kk12_196 : (.constantLong "FontListModel" 196 3 : Cond) ∈ TB := TB_mem 1306 (by decide +kernel) (by decide +kernel)
theorem kmL_32 : (.methodLink "FontListLaw" 32 ⟨"FontListModel", "christening", "(IIIII)I"⟩ : Cond) ∈ TB := TB_mem 1307 (by decide +kernel) (by decide +kernel)
theorem kiX12_christening : (.instanceMethod ⟨"FontListModel", "christening", "(IIIII)I"⟩ : Cond) ∈ TB := TB_mem 1308 (by decide +kernel) (by decide +kernel)
theorem kcX12_christening : (.code ⟨"FontListModel", "christening", "(IIIII)I"⟩ prog_14_method_13_code 6 (Option.some .int) : Cond) ∈ TB := TB_mem 1310 (by decide +kernel) (by decide +kernel)
theorem kmL_37 : (.methodLink "FontListLaw" 37 ⟨"FontListModel", "died", "(II)Z"⟩ : Cond) ∈ TB := TB_mem 1311 (by decide +kernel) (by decide +kernel)
theorem kiX12_died : (.instanceMethod ⟨"FontListModel", "died", "(II)Z"⟩ : Cond) ∈ TB := TB_mem 1312 (by decide +kernel) (by decide +kernel)
theorem kcX12_died : (.code ⟨"FontListModel", "died", "(II)Z"⟩ prog_14_method_14_code 3 (Option.some .boolean) : Cond) ∈ TB := TB_mem 1314 (by decide +kernel) (by decide +kernel)
theorem km12_198 : (.methodLink "FontListModel" 198 ⟨"FontListModel", "isFont", "(I)Z"⟩ : Cond) ∈ TB := TB_mem 1315 (by decide +kernel) (by decide +kernel)
theorem kiX12_isFont : (.instanceMethod ⟨"FontListModel", "isFont", "(I)Z"⟩ : Cond) ∈ TB := TB_mem 1317 (by decide +kernel) (by decide +kernel)
theorem kcX12_isFont : (.code ⟨"FontListModel", "isFont", "(I)Z"⟩ prog_14_method_8_code 2 (Option.some .boolean) : Cond) ∈ TB := TB_mem 1318 (by decide +kernel) (by decide +kernel)
theorem kmL_41 : (.methodLink "FontListLaw" 41 ⟨"FontListModel", "weighs", "(II)Z"⟩ : Cond) ∈ TB := TB_mem 1319 (by decide +kernel) (by decide +kernel)
theorem kiX12_weighs : (.instanceMethod ⟨"FontListModel", "weighs", "(II)Z"⟩ : Cond) ∈ TB := TB_mem 1320 (by decide +kernel) (by decide +kernel)
theorem kcX12_weighs : (.code ⟨"FontListModel", "weighs", "(II)Z"⟩ prog_14_method_15_code 3 (Option.some .boolean) : Cond) ∈ TB := TB_mem 1322 (by decide +kernel) (by decide +kernel)
theorem kk12_201 : (.constantLong "FontListModel" 201 1000 : Cond) ∈ TB := TB_mem 1323 (by decide +kernel) (by decide +kernel)
theorem kmL_45 : (.methodLink "FontListLaw" 45 ⟨"FontListModel", "feed", "(IIIII)I"⟩ : Cond) ∈ TB := TB_mem 1324 (by decide +kernel) (by decide +kernel)
theorem kiX12_feed : (.instanceMethod ⟨"FontListModel", "feed", "(IIIII)I"⟩ : Cond) ∈ TB := TB_mem 1325 (by decide +kernel) (by decide +kernel)
theorem kcX12_feed : (.code ⟨"FontListModel", "feed", "(IIIII)I"⟩ prog_14_method_17_code 6 (Option.some .int) : Cond) ∈ TB := TB_mem 1327 (by decide +kernel) (by decide +kernel)
theorem km12_206 : (.methodLink "FontListModel" 206 ⟨"FontListModel", "push", "(I)V"⟩ : Cond) ∈ TB := TB_mem 1328 (by decide +kernel) (by decide +kernel)
theorem kiX12_push : (.instanceMethod ⟨"FontListModel", "push", "(I)V"⟩ : Cond) ∈ TB := TB_mem 1330 (by decide +kernel) (by decide +kernel)
theorem kcX12_push : (.code ⟨"FontListModel", "push", "(I)V"⟩ prog_14_method_16_code 3 (Option.none : Option Jvm.ClassFile.FieldType) : Cond) ∈ TB := TB_mem 1331 (by decide +kernel) (by decide +kernel)
theorem kmL_49 : (.methodLink "FontListLaw" 49 ⟨"FontListModel", "custom", "(II)I"⟩ : Cond) ∈ TB := TB_mem 1332 (by decide +kernel) (by decide +kernel)
theorem kiX12_custom : (.instanceMethod ⟨"FontListModel", "custom", "(II)I"⟩ : Cond) ∈ TB := TB_mem 1333 (by decide +kernel) (by decide +kernel)
theorem kcX12_custom : (.code ⟨"FontListModel", "custom", "(II)I"⟩ prog_14_method_41_code 5 (Option.some .int) : Cond) ∈ TB := TB_mem 1335 (by decide +kernel) (by decide +kernel)
theorem kk12_311 : (.constantLong "FontListModel" 311 160 : Cond) ∈ TB := TB_mem 1336 (by decide +kernel) (by decide +kernel)
theorem km12_219 : (.methodLink "FontListModel" 219 ⟨"FontListModel", "isGood", "()Z"⟩ : Cond) ∈ TB := TB_mem 1337 (by decide +kernel) (by decide +kernel)
theorem kiX12_isGood : (.instanceMethod ⟨"FontListModel", "isGood", "()Z"⟩ : Cond) ∈ TB := TB_mem 1339 (by decide +kernel) (by decide +kernel)
theorem kcX12_isGood : (.code ⟨"FontListModel", "isGood", "()Z"⟩ prog_14_method_20_code 1 (Option.some .boolean) : Cond) ∈ TB := TB_mem 1340 (by decide +kernel) (by decide +kernel)
theorem km12_313 : (.methodLink "FontListModel" 313 ⟨"FontListModel", "clause", "()V"⟩ : Cond) ∈ TB := TB_mem 1341 (by decide +kernel) (by decide +kernel)
theorem kiX12_clause : (.instanceMethod ⟨"FontListModel", "clause", "()V"⟩ : Cond) ∈ TB := TB_mem 1343 (by decide +kernel) (by decide +kernel)
theorem kcX12_clause : (.code ⟨"FontListModel", "clause", "()V"⟩ prog_14_method_40_code 2 (Option.none : Option Jvm.ClassFile.FieldType) : Cond) ∈ TB := TB_mem 1344 (by decide +kernel) (by decide +kernel)
theorem km12_236 : (.methodLink "FontListModel" 236 ⟨"FontListModel", "here", "()I"⟩ : Cond) ∈ TB := TB_mem 1345 (by decide +kernel) (by decide +kernel)
theorem kiX12_here : (.instanceMethod ⟨"FontListModel", "here", "()I"⟩ : Cond) ∈ TB := TB_mem 1347 (by decide +kernel) (by decide +kernel)
theorem kcX12_here : (.code ⟨"FontListModel", "here", "()I"⟩ prog_14_method_18_code 1 (Option.some .int) : Cond) ∈ TB := TB_mem 1348 (by decide +kernel) (by decide +kernel)
theorem km12_302 : (.methodLink "FontListModel" 302 ⟨"FontListModel", "isClause", "(I)Z"⟩ : Cond) ∈ TB := TB_mem 1349 (by decide +kernel) (by decide +kernel)
theorem ksX12_isClause : (.static ⟨"FontListModel", "isClause", "(I)Z"⟩ : Cond) ∈ TB := TB_mem 1350 (by decide +kernel) (by decide +kernel)
theorem kcX12_isClause : (.code ⟨"FontListModel", "isClause", "(I)Z"⟩ prog_14_method_39_code 1 (Option.some .boolean) : Cond) ∈ TB := TB_mem 1351 (by decide +kernel) (by decide +kernel)
theorem km12_232 : (.methodLink "FontListModel" 232 ⟨"FontListModel", "wrongs", "(II)V"⟩ : Cond) ∈ TB := TB_mem 1352 (by decide +kernel) (by decide +kernel)
theorem kiX12_wrongs : (.instanceMethod ⟨"FontListModel", "wrongs", "(II)V"⟩ : Cond) ∈ TB := TB_mem 1354 (by decide +kernel) (by decide +kernel)
theorem kcX12_wrongs : (.code ⟨"FontListModel", "wrongs", "(II)V"⟩ prog_14_method_19_code 3 (Option.none : Option Jvm.ClassFile.FieldType) : Cond) ∈ TB := TB_mem 1355 (by decide +kernel) (by decide +kernel)
theorem km12_308 : (.methodLink "FontListModel" 308 ⟨"FontListModel", "condition", "()V"⟩ : Cond) ∈ TB := TB_mem 1356 (by decide +kernel) (by decide +kernel)
theorem kiX12_condition : (.instanceMethod ⟨"FontListModel", "condition", "()V"⟩ : Cond) ∈ TB := TB_mem 1358 (by decide +kernel) (by decide +kernel)
theorem kcX12_condition : (.code ⟨"FontListModel", "condition", "()V"⟩ prog_14_method_38_code 2 (Option.none : Option Jvm.ClassFile.FieldType) : Cond) ∈ TB := TB_mem 1359 (by decide +kernel) (by decide +kernel)
theorem km12_262 : (.methodLink "FontListModel" 262 ⟨"FontListModel", "opens", "()V"⟩ : Cond) ∈ TB := TB_mem 1360 (by decide +kernel) (by decide +kernel)
theorem kiX12_opens : (.instanceMethod ⟨"FontListModel", "opens", "()V"⟩ : Cond) ∈ TB := TB_mem 1362 (by decide +kernel) (by decide +kernel)
theorem kcX12_opens : (.code ⟨"FontListModel", "opens", "()V"⟩ prog_14_method_24_code 1 (Option.none : Option Jvm.ClassFile.FieldType) : Cond) ∈ TB := TB_mem 1363 (by decide +kernel) (by decide +kernel)
theorem km12_240 : (.methodLink "FontListModel" 240 ⟨"FontListModel", "puts", "(I)V"⟩ : Cond) ∈ TB := TB_mem 1364 (by decide +kernel) (by decide +kernel)
theorem kiX12_puts : (.instanceMethod ⟨"FontListModel", "puts", "(I)V"⟩ : Cond) ∈ TB := TB_mem 1366 (by decide +kernel) (by decide +kernel)
theorem kcX12_puts : (.code ⟨"FontListModel", "puts", "(I)V"⟩ prog_14_method_23_code 2 (Option.none : Option Jvm.ClassFile.FieldType) : Cond) ∈ TB := TB_mem 1367 (by decide +kernel) (by decide +kernel)
theorem km12_296 : (.methodLink "FontListModel" 296 ⟨"FontListModel", "pieceOfC", "()V"⟩ : Cond) ∈ TB := TB_mem 1368 (by decide +kernel) (by decide +kernel)
theorem kiX12_pieceOfC : (.instanceMethod ⟨"FontListModel", "pieceOfC", "()V"⟩ : Cond) ∈ TB := TB_mem 1370 (by decide +kernel) (by decide +kernel)
theorem kcX12_pieceOfC : (.code ⟨"FontListModel", "pieceOfC", "()V"⟩ prog_14_method_36_code 2 (Option.none : Option Jvm.ClassFile.FieldType) : Cond) ∈ TB := TB_mem 1371 (by decide +kernel) (by decide +kernel)
theorem km12_281 : (.methodLink "FontListModel" 281 ⟨"FontListModel", "factor", "()V"⟩ : Cond) ∈ TB := TB_mem 1372 (by decide +kernel) (by decide +kernel)
theorem kiX12_factor : (.instanceMethod ⟨"FontListModel", "factor", "()V"⟩ : Cond) ∈ TB := TB_mem 1374 (by decide +kernel) (by decide +kernel)
theorem kcX12_factor : (.code ⟨"FontListModel", "factor", "()V"⟩ prog_14_method_34_code 1 (Option.none : Option Jvm.ClassFile.FieldType) : Cond) ∈ TB := TB_mem 1375 (by decide +kernel) (by decide +kernel)
theorem km12_247 : (.methodLink "FontListModel" 247 ⟨"FontListModel", "seesDigit", "()Z"⟩ : Cond) ∈ TB := TB_mem 1376 (by decide +kernel) (by decide +kernel)
theorem kiX12_seesDigit : (.instanceMethod ⟨"FontListModel", "seesDigit", "()Z"⟩ : Cond) ∈ TB := TB_mem 1378 (by decide +kernel) (by decide +kernel)
theorem kcX12_seesDigit : (.code ⟨"FontListModel", "seesDigit", "()Z"⟩ prog_14_method_25_code 1 (Option.some .boolean) : Cond) ∈ TB := TB_mem 1379 (by decide +kernel) (by decide +kernel)
theorem kk12_243 : (.constantLong "FontListModel" 243 48 : Cond) ∈ TB := TB_mem 1380 (by decide +kernel) (by decide +kernel)
theorem kk12_245 : (.constantLong "FontListModel" 245 57 : Cond) ∈ TB := TB_mem 1381 (by decide +kernel) (by decide +kernel)
theorem km12_265 : (.methodLink "FontListModel" 265 ⟨"FontListModel", "reads", "()I"⟩ : Cond) ∈ TB := TB_mem 1382 (by decide +kernel) (by decide +kernel)
theorem kiX12_reads : (.instanceMethod ⟨"FontListModel", "reads", "()I"⟩ : Cond) ∈ TB := TB_mem 1384 (by decide +kernel) (by decide +kernel)
theorem kcX12_reads : (.code ⟨"FontListModel", "reads", "()I"⟩ prog_14_method_26_code 3 (Option.some .int) : Cond) ∈ TB := TB_mem 1385 (by decide +kernel) (by decide +kernel)
theorem km12_259 : (.methodLink "FontListModel" 259 ⟨"FontListModel", "emit", "(II)V"⟩ : Cond) ∈ TB := TB_mem 1386 (by decide +kernel) (by decide +kernel)
theorem kiX12_emit : (.instanceMethod ⟨"FontListModel", "emit", "(II)V"⟩ : Cond) ∈ TB := TB_mem 1388 (by decide +kernel) (by decide +kernel)
theorem kcX12_emit : (.code ⟨"FontListModel", "emit", "(II)V"⟩ prog_14_method_21_code 3 (Option.none : Option Jvm.ClassFile.FieldType) : Cond) ∈ TB := TB_mem 1389 (by decide +kernel) (by decide +kernel)
theorem km12_268 : (.methodLink "FontListModel" 268 ⟨"FontListModel", "isValue", "(I)Z"⟩ : Cond) ∈ TB := TB_mem 1390 (by decide +kernel) (by decide +kernel)
theorem ksX12_isValue : (.static ⟨"FontListModel", "isValue", "(I)Z"⟩ : Cond) ∈ TB := TB_mem 1391 (by decide +kernel) (by decide +kernel)
theorem kcX12_isValue : (.code ⟨"FontListModel", "isValue", "(I)Z"⟩ prog_14_method_30_code 1 (Option.some .boolean) : Cond) ∈ TB := TB_mem 1392 (by decide +kernel) (by decide +kernel)
theorem km12_284 : (.methodLink "FontListModel" 284 ⟨"FontListModel", "goesOn", "()Z"⟩ : Cond) ∈ TB := TB_mem 1393 (by decide +kernel) (by decide +kernel)
theorem kiX12_goesOn : (.instanceMethod ⟨"FontListModel", "goesOn", "()Z"⟩ : Cond) ∈ TB := TB_mem 1395 (by decide +kernel) (by decide +kernel)
theorem kcX12_goesOn : (.code ⟨"FontListModel", "goesOn", "()Z"⟩ prog_14_method_35_code 2 (Option.some .boolean) : Cond) ∈ TB := TB_mem 1396 (by decide +kernel) (by decide +kernel)
theorem km12_253 : (.methodLink "FontListModel" 253 ⟨"FontListModel", "isTimes", "(I)Z"⟩ : Cond) ∈ TB := TB_mem 1397 (by decide +kernel) (by decide +kernel)
theorem ksX12_isTimes : (.static ⟨"FontListModel", "isTimes", "(I)Z"⟩ : Cond) ∈ TB := TB_mem 1398 (by decide +kernel) (by decide +kernel)
theorem kcX12_isTimes : (.code ⟨"FontListModel", "isTimes", "(I)Z"⟩ prog_14_method_27_code 1 (Option.some .boolean) : Cond) ∈ TB := TB_mem 1399 (by decide +kernel) (by decide +kernel)
theorem km12_256 : (.methodLink "FontListModel" 256 ⟨"FontListModel", "isPlus", "(I)Z"⟩ : Cond) ∈ TB := TB_mem 1400 (by decide +kernel) (by decide +kernel)
theorem ksX12_isPlus : (.static ⟨"FontListModel", "isPlus", "(I)Z"⟩ : Cond) ∈ TB := TB_mem 1401 (by decide +kernel) (by decide +kernel)
theorem kcX12_isPlus : (.code ⟨"FontListModel", "isPlus", "(I)Z"⟩ prog_14_method_28_code 1 (Option.some .boolean) : Cond) ∈ TB := TB_mem 1402 (by decide +kernel) (by decide +kernel)
theorem km12_271 : (.methodLink "FontListModel" 271 ⟨"FontListModel", "sums", "(Z)V"⟩ : Cond) ∈ TB := TB_mem 1403 (by decide +kernel) (by decide +kernel)
theorem kiX12_sums : (.instanceMethod ⟨"FontListModel", "sums", "(Z)V"⟩ : Cond) ∈ TB := TB_mem 1405 (by decide +kernel) (by decide +kernel)
theorem kcX12_sums : (.code ⟨"FontListModel", "sums", "(Z)V"⟩ prog_14_method_31_code 2 (Option.none : Option Jvm.ClassFile.FieldType) : Cond) ∈ TB := TB_mem 1406 (by decide +kernel) (by decide +kernel)
theorem km12_250 : (.methodLink "FontListModel" 250 ⟨"FontListModel", "top", "()I"⟩ : Cond) ∈ TB := TB_mem 1407 (by decide +kernel) (by decide +kernel)
theorem kiX12_top : (.instanceMethod ⟨"FontListModel", "top", "()I"⟩ : Cond) ∈ TB := TB_mem 1409 (by decide +kernel) (by decide +kernel)
theorem kcX12_top : (.code ⟨"FontListModel", "top", "()I"⟩ prog_14_method_22_code 1 (Option.some .int) : Cond) ∈ TB := TB_mem 1410 (by decide +kernel) (by decide +kernel)
theorem km12_278 : (.methodLink "FontListModel" 278 ⟨"FontListModel", "isSign", "(I)Z"⟩ : Cond) ∈ TB := TB_mem 1411 (by decide +kernel) (by decide +kernel)
theorem ksX12_isSign : (.static ⟨"FontListModel", "isSign", "(I)Z"⟩ : Cond) ∈ TB := TB_mem 1412 (by decide +kernel) (by decide +kernel)
theorem kcX12_isSign : (.code ⟨"FontListModel", "isSign", "(I)Z"⟩ prog_14_method_29_code 1 (Option.some .boolean) : Cond) ∈ TB := TB_mem 1413 (by decide +kernel) (by decide +kernel)
theorem km12_287 : (.methodLink "FontListModel" 287 ⟨"FontListModel", "ends", "()V"⟩ : Cond) ∈ TB := TB_mem 1414 (by decide +kernel) (by decide +kernel)
theorem kiX12_ends : (.instanceMethod ⟨"FontListModel", "ends", "()V"⟩ : Cond) ∈ TB := TB_mem 1416 (by decide +kernel) (by decide +kernel)
theorem kcX12_ends : (.code ⟨"FontListModel", "ends", "()V"⟩ prog_14_method_33_code 1 (Option.none : Option Jvm.ClassFile.FieldType) : Cond) ∈ TB := TB_mem 1417 (by decide +kernel) (by decide +kernel)
theorem km12_299 : (.methodLink "FontListModel" 299 ⟨"FontListModel", "goesBehind", "()Z"⟩ : Cond) ∈ TB := TB_mem 1418 (by decide +kernel) (by decide +kernel)
theorem kiX12_goesBehind : (.instanceMethod ⟨"FontListModel", "goesBehind", "()Z"⟩ : Cond) ∈ TB := TB_mem 1420 (by decide +kernel) (by decide +kernel)
theorem kcX12_goesBehind : (.code ⟨"FontListModel", "goesBehind", "()Z"⟩ prog_14_method_37_code 2 (Option.some .boolean) : Cond) ∈ TB := TB_mem 1421 (by decide +kernel) (by decide +kernel)
theorem km12_290 : (.methodLink "FontListModel" 290 ⟨"FontListModel", "joins", "(Z)V"⟩ : Cond) ∈ TB := TB_mem 1422 (by decide +kernel) (by decide +kernel)
theorem kiX12_joins : (.instanceMethod ⟨"FontListModel", "joins", "(Z)V"⟩ : Cond) ∈ TB := TB_mem 1424 (by decide +kernel) (by decide +kernel)
theorem kcX12_joins : (.code ⟨"FontListModel", "joins", "(Z)V"⟩ prog_14_method_32_code 2 (Option.none : Option Jvm.ClassFile.FieldType) : Cond) ∈ TB := TB_mem 1425 (by decide +kernel) (by decide +kernel)
theorem kmL_53 : (.methodLink "FontListLaw" 53 ⟨"FontListModel", "customs", "(III)Z"⟩ : Cond) ∈ TB := TB_mem 1426 (by decide +kernel) (by decide +kernel)
theorem kiX12_customs : (.instanceMethod ⟨"FontListModel", "customs", "(III)Z"⟩ : Cond) ∈ TB := TB_mem 1427 (by decide +kernel) (by decide +kernel)
theorem kcX12_customs : (.code ⟨"FontListModel", "customs", "(III)Z"⟩ prog_14_method_42_code 4 (Option.some .boolean) : Cond) ∈ TB := TB_mem 1429 (by decide +kernel) (by decide +kernel)
theorem kk12_316 : (.constantLong "FontListModel" 316 300 : Cond) ∈ TB := TB_mem 1430 (by decide +kernel) (by decide +kernel)
theorem kmL_57 : (.methodLink "FontListLaw" 57 ⟨"FontListModel", "tie", "(II)I"⟩ : Cond) ∈ TB := TB_mem 1431 (by decide +kernel) (by decide +kernel)
theorem kiX12_tie : (.instanceMethod ⟨"FontListModel", "tie", "(II)I"⟩ : Cond) ∈ TB := TB_mem 1432 (by decide +kernel) (by decide +kernel)
theorem kcX12_tie : (.code ⟨"FontListModel", "tie", "(II)I"⟩ prog_14_method_66_code 3 (Option.some .int) : Cond) ∈ TB := TB_mem 1434 (by decide +kernel) (by decide +kernel)
theorem km12_330 : (.methodLink "FontListModel" 330 ⟨"FontListModel", "canTie", "(II)Z"⟩ : Cond) ∈ TB := TB_mem 1435 (by decide +kernel) (by decide +kernel)
theorem kiX12_canTie : (.instanceMethod ⟨"FontListModel", "canTie", "(II)Z"⟩ : Cond) ∈ TB := TB_mem 1437 (by decide +kernel) (by decide +kernel)
theorem kcX12_canTie : (.code ⟨"FontListModel", "canTie", "(II)Z"⟩ prog_14_method_43_code 3 (Option.some .boolean) : Cond) ∈ TB := TB_mem 1438 (by decide +kernel) (by decide +kernel)
theorem kmL_61 : (.methodLink "FontListLaw" 61 ⟨"FontListModel", "family", "(II)I"⟩ : Cond) ∈ TB := TB_mem 1439 (by decide +kernel) (by decide +kernel)
theorem kiX12_family : (.instanceMethod ⟨"FontListModel", "family", "(II)I"⟩ : Cond) ∈ TB := TB_mem 1440 (by decide +kernel) (by decide +kernel)
theorem kcX12_family : (.code ⟨"FontListModel", "family", "(II)I"⟩ prog_14_method_67_code 3 (Option.some .int) : Cond) ∈ TB := TB_mem 1442 (by decide +kernel) (by decide +kernel)
theorem km12_391 : (.methodLink "FontListModel" 391 ⟨"FontListModel", "isSet", "(I)Z"⟩ : Cond) ∈ TB := TB_mem 1443 (by decide +kernel) (by decide +kernel)
theorem kiX12_isSet : (.instanceMethod ⟨"FontListModel", "isSet", "(I)Z"⟩ : Cond) ∈ TB := TB_mem 1445 (by decide +kernel) (by decide +kernel)
theorem kcX12_isSet : (.code ⟨"FontListModel", "isSet", "(I)Z"⟩ prog_14_method_65_code 2 (Option.some .boolean) : Cond) ∈ TB := TB_mem 1446 (by decide +kernel) (by decide +kernel)
theorem km12_394 : (.methodLink "FontListModel" 394 ⟨"FontListModel", "canFamily", "(II)Z"⟩ : Cond) ∈ TB := TB_mem 1447 (by decide +kernel) (by decide +kernel)
theorem kiX12_canFamily : (.instanceMethod ⟨"FontListModel", "canFamily", "(II)Z"⟩ : Cond) ∈ TB := TB_mem 1449 (by decide +kernel) (by decide +kernel)
theorem kcX12_canFamily : (.code ⟨"FontListModel", "canFamily", "(II)Z"⟩ prog_14_method_64_code 3 (Option.some .boolean) : Cond) ∈ TB := TB_mem 1450 (by decide +kernel) (by decide +kernel)
theorem km12_382 : (.methodLink "FontListModel" 382 ⟨"FontListModel", "takes", "(II)V"⟩ : Cond) ∈ TB := TB_mem 1451 (by decide +kernel) (by decide +kernel)
theorem kiX12_takes : (.instanceMethod ⟨"FontListModel", "takes", "(II)V"⟩ : Cond) ∈ TB := TB_mem 1453 (by decide +kernel) (by decide +kernel)
theorem kcX12_takes : (.code ⟨"FontListModel", "takes", "(II)V"⟩ prog_14_method_45_code 5 (Option.none : Option Jvm.ClassFile.FieldType) : Cond) ∈ TB := TB_mem 1454 (by decide +kernel) (by decide +kernel)
theorem km12_324 : (.methodLink "FontListModel" 324 ⟨"FontListModel", "has", "(II)Z"⟩ : Cond) ∈ TB := TB_mem 1455 (by decide +kernel) (by decide +kernel)
theorem ksX12_has : (.static ⟨"FontListModel", "has", "(II)Z"⟩ : Cond) ∈ TB := TB_mem 1456 (by decide +kernel) (by decide +kernel)
theorem kcX12_has : (.code ⟨"FontListModel", "has", "(II)Z"⟩ prog_14_method_3_code 2 (Option.some .boolean) : Cond) ∈ TB := TB_mem 1457 (by decide +kernel) (by decide +kernel)
theorem km12_327 : (.methodLink "FontListModel" 327 ⟨"FontListModel", "isElder", "(II)Z"⟩ : Cond) ∈ TB := TB_mem 1458 (by decide +kernel) (by decide +kernel)
theorem kiX12_isElder : (.instanceMethod ⟨"FontListModel", "isElder", "(II)Z"⟩ : Cond) ∈ TB := TB_mem 1460 (by decide +kernel) (by decide +kernel)
theorem kcX12_isElder : (.code ⟨"FontListModel", "isElder", "(II)Z"⟩ prog_14_method_44_code 3 (Option.some .boolean) : Cond) ∈ TB := TB_mem 1461 (by decide +kernel) (by decide +kernel)
theorem km12_388 : (.methodLink "FontListModel" 388 ⟨"FontListModel", "canBe", "()Z"⟩ : Cond) ∈ TB := TB_mem 1462 (by decide +kernel) (by decide +kernel)
theorem kiX12_canBe : (.instanceMethod ⟨"FontListModel", "canBe", "()Z"⟩ : Cond) ∈ TB := TB_mem 1464 (by decide +kernel) (by decide +kernel)
theorem kcX12_canBe : (.code ⟨"FontListModel", "canBe", "()Z"⟩ prog_14_method_47_code 4 (Option.some .boolean) : Cond) ∈ TB := TB_mem 1465 (by decide +kernel) (by decide +kernel)
theorem km12_333 : (.methodLink "FontListModel" 333 ⟨"FontListModel", "isGone", "(II)Z"⟩ : Cond) ∈ TB := TB_mem 1466 (by decide +kernel) (by decide +kernel)
theorem kiX12_isGone : (.instanceMethod ⟨"FontListModel", "isGone", "(II)Z"⟩ : Cond) ∈ TB := TB_mem 1468 (by decide +kernel) (by decide +kernel)
theorem kcX12_isGone : (.code ⟨"FontListModel", "isGone", "(II)Z"⟩ prog_14_method_46_code 3 (Option.some .boolean) : Cond) ∈ TB := TB_mem 1469 (by decide +kernel) (by decide +kernel)
theorem kmL_65 : (.methodLink "FontListLaw" 65 ⟨"FontListModel", "points", "(II)I"⟩ : Cond) ∈ TB := TB_mem 1470 (by decide +kernel) (by decide +kernel)
theorem kiX12_points : (.instanceMethod ⟨"FontListModel", "points", "(II)I"⟩ : Cond) ∈ TB := TB_mem 1471 (by decide +kernel) (by decide +kernel)
theorem kcX12_points : (.code ⟨"FontListModel", "points", "(II)I"⟩ prog_14_method_68_code 3 (Option.some .int) : Cond) ∈ TB := TB_mem 1473 (by decide +kernel) (by decide +kernel)
theorem km12_397 : (.methodLink "FontListModel" 397 ⟨"FontListModel", "pointsOf", "(II)I"⟩ : Cond) ∈ TB := TB_mem 1474 (by decide +kernel) (by decide +kernel)
theorem kiX12_pointsOf : (.instanceMethod ⟨"FontListModel", "pointsOf", "(II)I"⟩ : Cond) ∈ TB := TB_mem 1476 (by decide +kernel) (by decide +kernel)
theorem kcX12_pointsOf : (.code ⟨"FontListModel", "pointsOf", "(II)I"⟩ prog_14_method_63_code 5 (Option.some .int) : Cond) ∈ TB := TB_mem 1477 (by decide +kernel) (by decide +kernel)
theorem km12_385 : (.methodLink "FontListModel" 385 ⟨"FontListModel", "asks", "()V"⟩ : Cond) ∈ TB := TB_mem 1478 (by decide +kernel) (by decide +kernel)
theorem kiX12_asks : (.instanceMethod ⟨"FontListModel", "asks", "()V"⟩ : Cond) ∈ TB := TB_mem 1480 (by decide +kernel) (by decide +kernel)
theorem kcX12_asks : (.code ⟨"FontListModel", "asks", "()V"⟩ prog_14_method_62_code 3 (Option.none : Option Jvm.ClassFile.FieldType) : Cond) ∈ TB := TB_mem 1481 (by decide +kernel) (by decide +kernel)
theorem km12_370 : (.methodLink "FontListModel" 370 ⟨"FontListModel", "letterOf", "(II)I"⟩ : Cond) ∈ TB := TB_mem 1482 (by decide +kernel) (by decide +kernel)
theorem kiX12_letterOf : (.instanceMethod ⟨"FontListModel", "letterOf", "(II)I"⟩ : Cond) ∈ TB := TB_mem 1484 (by decide +kernel) (by decide +kernel)
theorem kcX12_letterOf : (.code ⟨"FontListModel", "letterOf", "(II)I"⟩ prog_14_method_54_code 5 (Option.some .int) : Cond) ∈ TB := TB_mem 1485 (by decide +kernel) (by decide +kernel)
theorem km12_350 : (.methodLink "FontListModel" 350 ⟨"FontListModel", "isThere", "(II)Z"⟩ : Cond) ∈ TB := TB_mem 1486 (by decide +kernel) (by decide +kernel)
theorem kiX12_isThere : (.instanceMethod ⟨"FontListModel", "isThere", "(II)Z"⟩ : Cond) ∈ TB := TB_mem 1488 (by decide +kernel) (by decide +kernel)
theorem kcX12_isThere : (.code ⟨"FontListModel", "isThere", "(II)Z"⟩ prog_14_method_53_code 4 (Option.some .boolean) : Cond) ∈ TB := TB_mem 1489 (by decide +kernel) (by decide +kernel)
theorem km12_346 : (.methodLink "FontListModel" 346 ⟨"FontListModel", "deadOf", "(I)I"⟩ : Cond) ∈ TB := TB_mem 1490 (by decide +kernel) (by decide +kernel)
theorem kiX12_deadOf : (.instanceMethod ⟨"FontListModel", "deadOf", "(I)I"⟩ : Cond) ∈ TB := TB_mem 1492 (by decide +kernel) (by decide +kernel)
theorem kcX12_deadOf : (.code ⟨"FontListModel", "deadOf", "(I)I"⟩ prog_14_method_52_code 6 (Option.some .int) : Cond) ∈ TB := TB_mem 1493 (by decide +kernel) (by decide +kernel)
theorem km12_353 : (.methodLink "FontListModel" 353 ⟨"FontListModel", "holds", "(III)Z"⟩ : Cond) ∈ TB := TB_mem 1494 (by decide +kernel) (by decide +kernel)
theorem kiX12_holds : (.instanceMethod ⟨"FontListModel", "holds", "(III)Z"⟩ : Cond) ∈ TB := TB_mem 1496 (by decide +kernel) (by decide +kernel)
theorem kcX12_holds : (.code ⟨"FontListModel", "holds", "(III)Z"⟩ prog_14_method_51_code 6 (Option.some .boolean) : Cond) ∈ TB := TB_mem 1497 (by decide +kernel) (by decide +kernel)
theorem km12_340 : (.methodLink "FontListModel" 340 ⟨"FontListModel", "does", "(II)V"⟩ : Cond) ∈ TB := TB_mem 1498 (by decide +kernel) (by decide +kernel)
theorem kiX12_does : (.instanceMethod ⟨"FontListModel", "does", "(II)V"⟩ : Cond) ∈ TB := TB_mem 1500 (by decide +kernel) (by decide +kernel)
theorem kcX12_does : (.code ⟨"FontListModel", "does", "(II)V"⟩ prog_14_method_50_code 4 (Option.none : Option Jvm.ClassFile.FieldType) : Cond) ∈ TB := TB_mem 1501 (by decide +kernel) (by decide +kernel)
theorem km12_336 : (.methodLink "FontListModel" 336 ⟨"FontListModel", "worked", "(III)I"⟩ : Cond) ∈ TB := TB_mem 1502 (by decide +kernel) (by decide +kernel)
theorem ksX12_worked : (.static ⟨"FontListModel", "worked", "(III)I"⟩ : Cond) ∈ TB := TB_mem 1503 (by decide +kernel) (by decide +kernel)
theorem kcX12_worked : (.code ⟨"FontListModel", "worked", "(III)I"⟩ prog_14_method_49_code 3 (Option.some .int) : Cond) ∈ TB := TB_mem 1504 (by decide +kernel) (by decide +kernel)
theorem km12_343 : (.methodLink "FontListModel" 343 ⟨"FontListModel", "value", "(III)I"⟩ : Cond) ∈ TB := TB_mem 1505 (by decide +kernel) (by decide +kernel)
theorem kiX12_value : (.instanceMethod ⟨"FontListModel", "value", "(III)I"⟩ : Cond) ∈ TB := TB_mem 1507 (by decide +kernel) (by decide +kernel)
theorem kcX12_value : (.code ⟨"FontListModel", "value", "(III)I"⟩ prog_14_method_48_code 8 (Option.some .int) : Cond) ∈ TB := TB_mem 1508 (by decide +kernel) (by decide +kernel)
theorem km12_373 : (.methodLink "FontListModel" 373 ⟨"FontListModel", "told", "(II)I"⟩ : Cond) ∈ TB := TB_mem 1509 (by decide +kernel) (by decide +kernel)
theorem kiX12_told : (.instanceMethod ⟨"FontListModel", "told", "(II)I"⟩ : Cond) ∈ TB := TB_mem 1511 (by decide +kernel) (by decide +kernel)
theorem kcX12_told : (.code ⟨"FontListModel", "told", "(II)I"⟩ prog_14_method_56_code 3 (Option.some .int) : Cond) ∈ TB := TB_mem 1512 (by decide +kernel) (by decide +kernel)
theorem km12_357 : (.methodLink "FontListModel" 357 ⟨"FontListModel", "parentBy", "(I)I"⟩ : Cond) ∈ TB := TB_mem 1513 (by decide +kernel) (by decide +kernel)
theorem ksX12_parentBy : (.static ⟨"FontListModel", "parentBy", "(I)I"⟩ : Cond) ∈ TB := TB_mem 1514 (by decide +kernel) (by decide +kernel)
theorem kcX12_parentBy : (.code ⟨"FontListModel", "parentBy", "(I)I"⟩ prog_14_method_55_code 1 (Option.some .int) : Cond) ∈ TB := TB_mem 1515 (by decide +kernel) (by decide +kernel)
theorem km12_376 : (.methodLink "FontListModel" 376 ⟨"FontListModel", "bestNames", "(I)I"⟩ : Cond) ∈ TB := TB_mem 1516 (by decide +kernel) (by decide +kernel)
theorem kiX12_bestNames : (.instanceMethod ⟨"FontListModel", "bestNames", "(I)I"⟩ : Cond) ∈ TB := TB_mem 1518 (by decide +kernel) (by decide +kernel)
theorem kcX12_bestNames : (.code ⟨"FontListModel", "bestNames", "(I)I"⟩ prog_14_method_60_code 7 (Option.some .int) : Cond) ∈ TB := TB_mem 1519 (by decide +kernel) (by decide +kernel)
theorem km12_360 : (.methodLink "FontListModel" 360 ⟨"FontListModel", "isBy", "(II)Z"⟩ : Cond) ∈ TB := TB_mem 1520 (by decide +kernel) (by decide +kernel)
theorem kiX12_isBy : (.instanceMethod ⟨"FontListModel", "isBy", "(II)Z"⟩ : Cond) ∈ TB := TB_mem 1522 (by decide +kernel) (by decide +kernel)
theorem kcX12_isBy : (.code ⟨"FontListModel", "isBy", "(II)Z"⟩ prog_14_method_58_code 3 (Option.some .boolean) : Cond) ∈ TB := TB_mem 1523 (by decide +kernel) (by decide +kernel)
theorem km12_367 : (.methodLink "FontListModel" 367 ⟨"FontListModel", "brings", "(II)I"⟩ : Cond) ∈ TB := TB_mem 1524 (by decide +kernel) (by decide +kernel)
theorem kiX12_brings : (.instanceMethod ⟨"FontListModel", "brings", "(II)I"⟩ : Cond) ∈ TB := TB_mem 1526 (by decide +kernel) (by decide +kernel)
theorem kcX12_brings : (.code ⟨"FontListModel", "brings", "(II)I"⟩ prog_14_method_59_code 5 (Option.some .int) : Cond) ∈ TB := TB_mem 1527 (by decide +kernel) (by decide +kernel)
theorem km12_363 : (.methodLink "FontListModel" 363 ⟨"FontListModel", "pointsBy", "(II)I"⟩ : Cond) ∈ TB := TB_mem 1528 (by decide +kernel) (by decide +kernel)
theorem kiX12_pointsBy : (.instanceMethod ⟨"FontListModel", "pointsBy", "(II)I"⟩ : Cond) ∈ TB := TB_mem 1530 (by decide +kernel) (by decide +kernel)
theorem kcX12_pointsBy : (.code ⟨"FontListModel", "pointsBy", "(II)I"⟩ prog_14_method_57_code 3 (Option.some .int) : Cond) ∈ TB := TB_mem 1531 (by decide +kernel) (by decide +kernel)
theorem km12_379 : (.methodLink "FontListModel" 379 ⟨"FontListModel", "lowestOf", "(I)I"⟩ : Cond) ∈ TB := TB_mem 1532 (by decide +kernel) (by decide +kernel)
theorem ksX12_lowestOf : (.static ⟨"FontListModel", "lowestOf", "(I)I"⟩ : Cond) ∈ TB := TB_mem 1533 (by decide +kernel) (by decide +kernel)
theorem kcX12_lowestOf : (.code ⟨"FontListModel", "lowestOf", "(I)I"⟩ prog_14_method_61_code 2 (Option.some .int) : Cond) ∈ TB := TB_mem 1534 (by decide +kernel) (by decide +kernel)
theorem kk12_400 : (.constant "FontListModel" 400 (-1000000) : Cond) ∈ TB := TB_mem 1535 (by decide +kernel) (by decide +kernel)
theorem kmL_70 : (.methodLink "FontListLaw" 70 ⟨"FontListModel", "by", "(III)I"⟩ : Cond) ∈ TB := TB_mem 1536 (by decide +kernel) (by decide +kernel)
theorem kiX12_by : (.instanceMethod ⟨"FontListModel", "by", "(III)I"⟩ : Cond) ∈ TB := TB_mem 1537 (by decide +kernel) (by decide +kernel)
theorem kcX12_by : (.code ⟨"FontListModel", "by", "(III)I"⟩ prog_14_method_70_code 5 (Option.some .int) : Cond) ∈ TB := TB_mem 1539 (by decide +kernel) (by decide +kernel)
theorem km12_401 : (.methodLink "FontListModel" 401 ⟨"FontListModel", "placeOf", "(III)I"⟩ : Cond) ∈ TB := TB_mem 1540 (by decide +kernel) (by decide +kernel)
theorem kiX12_placeOf : (.instanceMethod ⟨"FontListModel", "placeOf", "(III)I"⟩ : Cond) ∈ TB := TB_mem 1542 (by decide +kernel) (by decide +kernel)
theorem kcX12_placeOf : (.code ⟨"FontListModel", "placeOf", "(III)I"⟩ prog_14_method_69_code 5 (Option.some .int) : Cond) ∈ TB := TB_mem 1543 (by decide +kernel) (by decide +kernel)
theorem kmL_74 : (.methodLink "FontListLaw" 74 ⟨"FontListModel", "should", "(III)I"⟩ : Cond) ∈ TB := TB_mem 1544 (by decide +kernel) (by decide +kernel)
theorem kiX12_should : (.instanceMethod ⟨"FontListModel", "should", "(III)I"⟩ : Cond) ∈ TB := TB_mem 1545 (by decide +kernel) (by decide +kernel)
theorem kcX12_should : (.code ⟨"FontListModel", "should", "(III)I"⟩ prog_14_method_71_code 5 (Option.some .int) : Cond) ∈ TB := TB_mem 1547 (by decide +kernel) (by decide +kernel)
theorem kmL_79 : (.methodLink "FontListLaw" 79 ⟨"FontListModel", "best", "(I)I"⟩ : Cond) ∈ TB := TB_mem 1548 (by decide +kernel) (by decide +kernel)
theorem kiX12_best : (.instanceMethod ⟨"FontListModel", "best", "(I)I"⟩ : Cond) ∈ TB := TB_mem 1549 (by decide +kernel) (by decide +kernel)
theorem kcX12_best : (.code ⟨"FontListModel", "best", "(I)I"⟩ prog_14_method_78_code 2 (Option.some .int) : Cond) ∈ TB := TB_mem 1551 (by decide +kernel) (by decide +kernel)
theorem km12_437 : (.methodLink "FontListModel" 437 ⟨"FontListModel", "finds", "()V"⟩ : Cond) ∈ TB := TB_mem 1552 (by decide +kernel) (by decide +kernel)
theorem kiX12_finds : (.instanceMethod ⟨"FontListModel", "finds", "()V"⟩ : Cond) ∈ TB := TB_mem 1554 (by decide +kernel) (by decide +kernel)
theorem kcX12_finds : (.code ⟨"FontListModel", "finds", "()V"⟩ prog_14_method_77_code 3 (Option.none : Option Jvm.ClassFile.FieldType) : Cond) ∈ TB := TB_mem 1555 (by decide +kernel) (by decide +kernel)
theorem km12_415 : (.methodLink "FontListModel" 415 ⟨"FontListModel", "families", "()V"⟩ : Cond) ∈ TB := TB_mem 1556 (by decide +kernel) (by decide +kernel)
theorem kiX12_families : (.instanceMethod ⟨"FontListModel", "families", "()V"⟩ : Cond) ∈ TB := TB_mem 1558 (by decide +kernel) (by decide +kernel)
theorem kcX12_families : (.code ⟨"FontListModel", "families", "()V"⟩ prog_14_method_72_code 3 (Option.none : Option Jvm.ClassFile.FieldType) : Cond) ∈ TB := TB_mem 1559 (by decide +kernel) (by decide +kernel)
theorem kk12_404 : (.constant "FontListModel" 404 (-100000000) : Cond) ∈ TB := TB_mem 1560 (by decide +kernel) (by decide +kernel)
theorem km12_418 : (.methodLink "FontListModel" 418 ⟨"FontListModel", "allows", "()V"⟩ : Cond) ∈ TB := TB_mem 1561 (by decide +kernel) (by decide +kernel)
theorem kiX12_allows : (.instanceMethod ⟨"FontListModel", "allows", "()V"⟩ : Cond) ∈ TB := TB_mem 1563 (by decide +kernel) (by decide +kernel)
theorem kcX12_allows : (.code ⟨"FontListModel", "allows", "()V"⟩ prog_14_method_76_code 2 (Option.none : Option Jvm.ClassFile.FieldType) : Cond) ∈ TB := TB_mem 1564 (by decide +kernel) (by decide +kernel)
theorem km12_421 : (.methodLink "FontListModel" 421 ⟨"FontListModel", "works", "()V"⟩ : Cond) ∈ TB := TB_mem 1565 (by decide +kernel) (by decide +kernel)
theorem kiX12_works : (.instanceMethod ⟨"FontListModel", "works", "()V"⟩ : Cond) ∈ TB := TB_mem 1567 (by decide +kernel) (by decide +kernel)
theorem kcX12_works : (.code ⟨"FontListModel", "works", "()V"⟩ prog_14_method_75_code 8 (Option.none : Option Jvm.ClassFile.FieldType) : Cond) ∈ TB := TB_mem 1568 (by decide +kernel) (by decide +kernel)
theorem km12_405 : (.methodLink "FontListModel" 405 ⟨"FontListModel", "barred", "(I)I"⟩ : Cond) ∈ TB := TB_mem 1569 (by decide +kernel) (by decide +kernel)
theorem kiX12_barred : (.instanceMethod ⟨"FontListModel", "barred", "(I)I"⟩ : Cond) ∈ TB := TB_mem 1571 (by decide +kernel) (by decide +kernel)
theorem kcX12_barred : (.code ⟨"FontListModel", "barred", "(I)I"⟩ prog_14_method_74_code 4 (Option.some .int) : Cond) ∈ TB := TB_mem 1572 (by decide +kernel) (by decide +kernel)
theorem km12_408 : (.methodLink "FontListModel" 408 ⟨"FontListModel", "sizeOf", "(I)I"⟩ : Cond) ∈ TB := TB_mem 1573 (by decide +kernel) (by decide +kernel)
theorem ksX12_sizeOf : (.static ⟨"FontListModel", "sizeOf", "(I)I"⟩ : Cond) ∈ TB := TB_mem 1574 (by decide +kernel) (by decide +kernel)
theorem kcX12_sizeOf : (.code ⟨"FontListModel", "sizeOf", "(I)I"⟩ prog_14_method_4_code 3 (Option.some .int) : Cond) ∈ TB := TB_mem 1575 (by decide +kernel) (by decide +kernel)
theorem km12_411 : (.methodLink "FontListModel" 411 ⟨"FontListModel", "comes", "(IIJ)V"⟩ : Cond) ∈ TB := TB_mem 1576 (by decide +kernel) (by decide +kernel)
theorem kiX12_comes : (.instanceMethod ⟨"FontListModel", "comes", "(IIJ)V"⟩ : Cond) ∈ TB := TB_mem 1578 (by decide +kernel) (by decide +kernel)
theorem kcX12_comes : (.code ⟨"FontListModel", "comes", "(IIJ)V"⟩ prog_14_method_73_code 5 (Option.none : Option Jvm.ClassFile.FieldType) : Cond) ∈ TB := TB_mem 1579 (by decide +kernel) (by decide +kernel)
theorem kmL_84 : (.methodLink "FontListLaw" 84 ⟨"FontListModel", "ways", "(I)J"⟩ : Cond) ∈ TB := TB_mem 1580 (by decide +kernel) (by decide +kernel)
theorem kiX12_ways : (.instanceMethod ⟨"FontListModel", "ways", "(I)J"⟩ : Cond) ∈ TB := TB_mem 1581 (by decide +kernel) (by decide +kernel)
theorem kcX12_ways : (.code ⟨"FontListModel", "ways", "(I)J"⟩ prog_14_method_79_code 2 (Option.some .long) : Cond) ∈ TB := TB_mem 1583 (by decide +kernel) (by decide +kernel)
theorem kk12_440 : (.constantLong "FontListModel" 440 (-1) : Cond) ∈ TB := TB_mem 1584 (by decide +kernel) (by decide +kernel)
theorem kmL_88 : (.methodLink "FontListLaw" 88 ⟨"FontListModel", "sure", "(II)I"⟩ : Cond) ∈ TB := TB_mem 1585 (by decide +kernel) (by decide +kernel)
theorem kiX12_sure : (.instanceMethod ⟨"FontListModel", "sure", "(II)I"⟩ : Cond) ∈ TB := TB_mem 1586 (by decide +kernel) (by decide +kernel)
theorem kcX12_sure : (.code ⟨"FontListModel", "sure", "(II)I"⟩ prog_14_method_80_code 8 (Option.some .int) : Cond) ∈ TB := TB_mem 1588 (by decide +kernel) (by decide +kernel)
theorem kmL_92 : (.methodLink "FontListLaw" 92 ⟨"FontListModel", "grand", "(II)I"⟩ : Cond) ∈ TB := TB_mem 1589 (by decide +kernel) (by decide +kernel)
theorem kiX12_grand : (.instanceMethod ⟨"FontListModel", "grand", "(II)I"⟩ : Cond) ∈ TB := TB_mem 1590 (by decide +kernel) (by decide +kernel)
theorem kcX12_grand : (.code ⟨"FontListModel", "grand", "(II)I"⟩ prog_14_method_82_code 3 (Option.some .int) : Cond) ∈ TB := TB_mem 1592 (by decide +kernel) (by decide +kernel)
theorem km12_442 : (.methodLink "FontListModel" 442 ⟨"FontListModel", "setOf", "(I)I"⟩ : Cond) ∈ TB := TB_mem 1593 (by decide +kernel) (by decide +kernel)
theorem kiX12_setOf : (.instanceMethod ⟨"FontListModel", "setOf", "(I)I"⟩ : Cond) ∈ TB := TB_mem 1595 (by decide +kernel) (by decide +kernel)
theorem kcX12_setOf : (.code ⟨"FontListModel", "setOf", "(I)I"⟩ prog_14_method_81_code 4 (Option.some .int) : Cond) ∈ TB := TB_mem 1596 (by decide +kernel) (by decide +kernel)
theorem kmL_96 : (.methodLink "FontListLaw" 96 ⟨"FontListModel", "must", "(III)I"⟩ : Cond) ∈ TB := TB_mem 1597 (by decide +kernel) (by decide +kernel)
theorem kiX12_must : (.instanceMethod ⟨"FontListModel", "must", "(III)I"⟩ : Cond) ∈ TB := TB_mem 1598 (by decide +kernel) (by decide +kernel)
theorem kcX12_must : (.code ⟨"FontListModel", "must", "(III)I"⟩ prog_14_method_85_code 5 (Option.some .int) : Cond) ∈ TB := TB_mem 1600 (by decide +kernel) (by decide +kernel)
theorem km12_445 : (.methodLink "FontListModel" 445 ⟨"FontListModel", "cellOf", "(III)I"⟩ : Cond) ∈ TB := TB_mem 1601 (by decide +kernel) (by decide +kernel)
theorem ksX12_cellOf : (.static ⟨"FontListModel", "cellOf", "(III)I"⟩ : Cond) ∈ TB := TB_mem 1602 (by decide +kernel) (by decide +kernel)
theorem kcX12_cellOf : (.code ⟨"FontListModel", "cellOf", "(III)I"⟩ prog_14_method_83_code 3 (Option.some .int) : Cond) ∈ TB := TB_mem 1603 (by decide +kernel) (by decide +kernel)
theorem km12_448 : (.methodLink "FontListModel" 448 ⟨"FontListModel", "needs", "(II)V"⟩ : Cond) ∈ TB := TB_mem 1604 (by decide +kernel) (by decide +kernel)
theorem kiX12_needs : (.instanceMethod ⟨"FontListModel", "needs", "(II)V"⟩ : Cond) ∈ TB := TB_mem 1606 (by decide +kernel) (by decide +kernel)
theorem kcX12_needs : (.code ⟨"FontListModel", "needs", "(II)V"⟩ prog_14_method_84_code 11 (Option.none : Option Jvm.ClassFile.FieldType) : Cond) ∈ TB := TB_mem 1607 (by decide +kernel) (by decide +kernel)
theorem kmL_101 : (.methodLink "FontListLaw" 101 ⟨"FontListModel", "judge", "()I"⟩ : Cond) ∈ TB := TB_mem 1608 (by decide +kernel) (by decide +kernel)
theorem kiX12_judge : (.instanceMethod ⟨"FontListModel", "judge", "()I"⟩ : Cond) ∈ TB := TB_mem 1609 (by decide +kernel) (by decide +kernel)
theorem kcX12_judge : (.code ⟨"FontListModel", "judge", "()I"⟩ prog_14_method_89_code 2 (Option.some .int) : Cond) ∈ TB := TB_mem 1611 (by decide +kernel) (by decide +kernel)
theorem km12_456 : (.methodLink "FontListModel" 456 ⟨"FontListModel", "wayOf", "()I"⟩ : Cond) ∈ TB := TB_mem 1612 (by decide +kernel) (by decide +kernel)
theorem kiX12_wayOf : (.instanceMethod ⟨"FontListModel", "wayOf", "()I"⟩ : Cond) ∈ TB := TB_mem 1614 (by decide +kernel) (by decide +kernel)
theorem kcX12_wayOf : (.code ⟨"FontListModel", "wayOf", "()I"⟩ prog_14_method_86_code 3 (Option.some .int) : Cond) ∈ TB := TB_mem 1615 (by decide +kernel) (by decide +kernel)
theorem kk12_451 : (.constant "FontListModel" 451 (-2000000) : Cond) ∈ TB := TB_mem 1616 (by decide +kernel) (by decide +kernel)
theorem km12_452 : (.methodLink "FontListModel" 452 ⟨"FontListModel", "setBy", "(I)I"⟩ : Cond) ∈ TB := TB_mem 1617 (by decide +kernel) (by decide +kernel)
theorem kiX12_setBy : (.instanceMethod ⟨"FontListModel", "setBy", "(I)I"⟩ : Cond) ∈ TB := TB_mem 1619 (by decide +kernel) (by decide +kernel)
theorem kcX12_setBy : (.code ⟨"FontListModel", "setBy", "(I)I"⟩ prog_14_method_87_code 4 (Option.some .int) : Cond) ∈ TB := TB_mem 1620 (by decide +kernel) (by decide +kernel)
theorem kk12_455 : (.constant "FontListModel" 455 (-3000000) : Cond) ∈ TB := TB_mem 1621 (by decide +kernel) (by decide +kernel)
theorem km12_459 : (.methodLink "FontListModel" 459 ⟨"FontListModel", "wayPoints", "()I"⟩ : Cond) ∈ TB := TB_mem 1622 (by decide +kernel) (by decide +kernel)
theorem kiX12_wayPoints : (.instanceMethod ⟨"FontListModel", "wayPoints", "()I"⟩ : Cond) ∈ TB := TB_mem 1624 (by decide +kernel) (by decide +kernel)
theorem kcX12_wayPoints : (.code ⟨"FontListModel", "wayPoints", "()I"⟩ prog_14_method_88_code 3 (Option.some .int) : Cond) ∈ TB := TB_mem 1625 (by decide +kernel) (by decide +kernel)
theorem kmL_105 : (.methodLink "FontListLaw" 105 ⟨"FontListModel", "learnt", "(III)I"⟩ : Cond) ∈ TB := TB_mem 1626 (by decide +kernel) (by decide +kernel)
theorem kiX12_learnt : (.instanceMethod ⟨"FontListModel", "learnt", "(III)I"⟩ : Cond) ∈ TB := TB_mem 1627 (by decide +kernel) (by decide +kernel)
theorem kcX12_learnt : (.code ⟨"FontListModel", "learnt", "(III)I"⟩ prog_14_method_90_code 12 (Option.some .int) : Cond) ∈ TB := TB_mem 1629 (by decide +kernel) (by decide +kernel)
theorem kmL_109 : (.methodLink "FontListLaw" 109 ⟨"FontListModel", "little", "(I)I"⟩ : Cond) ∈ TB := TB_mem 1630 (by decide +kernel) (by decide +kernel)
theorem kiX12_little : (.instanceMethod ⟨"FontListModel", "little", "(I)I"⟩ : Cond) ∈ TB := TB_mem 1631 (by decide +kernel) (by decide +kernel)
theorem kcX12_little : (.code ⟨"FontListModel", "little", "(I)I"⟩ prog_14_method_91_code 6 (Option.some .int) : Cond) ∈ TB := TB_mem 1633 (by decide +kernel) (by decide +kernel)
theorem kmL_113 : (.methodLink "FontListLaw" 113 ⟨"FontListModel", "check", "()I"⟩ : Cond) ∈ TB := TB_mem 1634 (by decide +kernel) (by decide +kernel)
theorem kiX12_check : (.instanceMethod ⟨"FontListModel", "check", "()I"⟩ : Cond) ∈ TB := TB_mem 1635 (by decide +kernel) (by decide +kernel)
theorem kcX12_check : (.code ⟨"FontListModel", "check", "()I"⟩ prog_14_method_92_code 2 (Option.some .int) : Cond) ∈ TB := TB_mem 1637 (by decide +kernel) (by decide +kernel)
theorem kmL_117 : (.methodLink "FontListLaw" 117 ⟨"FontListModel", "look", "(II)I"⟩ : Cond) ∈ TB := TB_mem 1638 (by decide +kernel) (by decide +kernel)
theorem kiX12_look : (.instanceMethod ⟨"FontListModel", "look", "(II)I"⟩ : Cond) ∈ TB := TB_mem 1639 (by decide +kernel) (by decide +kernel)
theorem kcX12_look : (.code ⟨"FontListModel", "look", "(II)I"⟩ prog_14_method_93_code 3 (Option.some .int) : Cond) ∈ TB := TB_mem 1641 (by decide +kernel) (by decide +kernel)
theorem kmL_121 : (.methodLink "FontListLaw" 121 ⟨"FontListModel", "count", "(I)I"⟩ : Cond) ∈ TB := TB_mem 1642 (by decide +kernel) (by decide +kernel)
theorem kiX12_count : (.instanceMethod ⟨"FontListModel", "count", "(I)I"⟩ : Cond) ∈ TB := TB_mem 1643 (by decide +kernel) (by decide +kernel)
theorem kcX12_count : (.code ⟨"FontListModel", "count", "(I)I"⟩ prog_14_method_94_code 2 (Option.some .int) : Cond) ∈ TB := TB_mem 1645 (by decide +kernel) (by decide +kernel)
theorem kk12_462 : (.constantLong "FontListModel" 462 10 : Cond) ∈ TB := TB_mem 1646 (by decide +kernel) (by decide +kernel)
theorem kk12_464 : (.constantLong "FontListModel" 464 13 : Cond) ∈ TB := TB_mem 1647 (by decide +kernel) (by decide +kernel)
theorem kvX11_name : (.selects "FontList" ⟨"FontList", "name", "(II)I"⟩ ⟨"FontList", "name", "(II)I"⟩ : Cond) ∈ TB := TB_mem 484 (by decide +kernel) (by decide +kernel)
theorem kvX5_add : (.selects "FontList$Names" ⟨"FontList$Names", "add", "(II)I"⟩ ⟨"FontList$Names", "add", "(II)I"⟩ : Cond) ∈ TB := TB_mem 488 (by decide +kernel) (by decide +kernel)
theorem kvX10_forget : (.selects "FontList$Ways" ⟨"FontList$Ways", "forget", "()V"⟩ ⟨"FontList$Ways", "forget", "()V"⟩ : Cond) ∈ TB := TB_mem 492 (by decide +kernel) (by decide +kernel)
theorem kvX11_couple : (.selects "FontList" ⟨"FontList", "couple", "(IIII)I"⟩ ⟨"FontList", "couple", "(IIII)I"⟩ : Cond) ∈ TB := TB_mem 496 (by decide +kernel) (by decide +kernel)
theorem kvX5_has : (.selects "FontList$Names" ⟨"FontList$Names", "has", "(II)Z"⟩ ⟨"FontList$Names", "has", "(II)Z"⟩ : Cond) ∈ TB := TB_mem 500 (by decide +kernel) (by decide +kernel)
theorem kvX1_add : (.selects "FontList$Couples" ⟨"FontList$Couples", "add", "(IIII)I"⟩ ⟨"FontList$Couples", "add", "(IIII)I"⟩ : Cond) ∈ TB := TB_mem 504 (by decide +kernel) (by decide +kernel)
theorem kvX11_parent : (.selects "FontList" ⟨"FontList", "parent", "(III)Z"⟩ ⟨"FontList", "parent", "(III)Z"⟩ : Cond) ∈ TB := TB_mem 508 (by decide +kernel) (by decide +kernel)
theorem kvX1_has : (.selects "FontList$Couples" ⟨"FontList$Couples", "has", "(I)Z"⟩ ⟨"FontList$Couples", "has", "(I)Z"⟩ : Cond) ∈ TB := TB_mem 512 (by decide +kernel) (by decide +kernel)
theorem kvX1_tellParent : (.selects "FontList$Couples" ⟨"FontList$Couples", "tellParent", "(III)V"⟩ ⟨"FontList$Couples", "tellParent", "(III)V"⟩ : Cond) ∈ TB := TB_mem 516 (by decide +kernel) (by decide +kernel)
theorem kvX11_christening : (.selects "FontList" ⟨"FontList", "christening", "(IIIII)I"⟩ ⟨"FontList", "christening", "(IIIII)I"⟩ : Cond) ∈ TB := TB_mem 521 (by decide +kernel) (by decide +kernel)
theorem kvX4_add : (.selects "FontList$Fonts" ⟨"FontList$Fonts", "add", "(IIIII)I"⟩ ⟨"FontList$Fonts", "add", "(IIIII)I"⟩ : Cond) ∈ TB := TB_mem 525 (by decide +kernel) (by decide +kernel)
theorem kvX11_died : (.selects "FontList" ⟨"FontList", "died", "(II)Z"⟩ ⟨"FontList", "died", "(II)Z"⟩ : Cond) ∈ TB := TB_mem 533 (by decide +kernel) (by decide +kernel)
theorem kvX4_has : (.selects "FontList$Fonts" ⟨"FontList$Fonts", "has", "(I)Z"⟩ ⟨"FontList$Fonts", "has", "(I)Z"⟩ : Cond) ∈ TB := TB_mem 537 (by decide +kernel) (by decide +kernel)
theorem kvX11_weighs : (.selects "FontList" ⟨"FontList", "weighs", "(II)Z"⟩ ⟨"FontList", "weighs", "(II)Z"⟩ : Cond) ∈ TB := TB_mem 541 (by decide +kernel) (by decide +kernel)
theorem kvX11_feed : (.selects "FontList" ⟨"FontList", "feed", "(IIIII)I"⟩ ⟨"FontList", "feed", "(IIIII)I"⟩ : Cond) ∈ TB := TB_mem 545 (by decide +kernel) (by decide +kernel)
theorem kvX8_hasRoom : (.selects "FontList$Tape" ⟨"FontList$Tape", "hasRoom", "()Z"⟩ ⟨"FontList$Tape", "hasRoom", "()Z"⟩ : Cond) ∈ TB := TB_mem 549 (by decide +kernel) (by decide +kernel)
theorem kvX8_append : (.selects "FontList$Tape" ⟨"FontList$Tape", "append", "(I)V"⟩ ⟨"FontList$Tape", "append", "(I)V"⟩ : Cond) ∈ TB := TB_mem 553 (by decide +kernel) (by decide +kernel)
theorem kvX11_custom : (.selects "FontList" ⟨"FontList", "custom", "(II)I"⟩ ⟨"FontList", "custom", "(II)I"⟩ : Cond) ∈ TB := TB_mem 557 (by decide +kernel) (by decide +kernel)
theorem kvX6_read : (.selects "FontList$Reader" ⟨"FontList$Reader", "read", "(LFontList$Tape;I)I"⟩ ⟨"FontList$Reader", "read", "(LFontList$Tape;I)I"⟩ : Cond) ∈ TB := TB_mem 561 (by decide +kernel) (by decide +kernel)
theorem kvX8_at : (.selects "FontList$Tape" ⟨"FontList$Tape", "at", "(I)I"⟩ ⟨"FontList$Tape", "at", "(I)I"⟩ : Cond) ∈ TB := TB_mem 568 (by decide +kernel) (by decide +kernel)
theorem kvX2_clear : (.selects "FontList$Custom" ⟨"FontList$Custom", "clear", "()V"⟩ ⟨"FontList$Custom", "clear", "()V"⟩ : Cond) ∈ TB := TB_mem 572 (by decide +kernel) (by decide +kernel)
theorem kvX2_addStep : (.selects "FontList$Custom" ⟨"FontList$Custom", "addStep", "(II)I"⟩ ⟨"FontList$Custom", "addStep", "(II)I"⟩ : Cond) ∈ TB := TB_mem 684 (by decide +kernel) (by decide +kernel)
theorem kvX2_leadHere : (.selects "FontList$Custom" ⟨"FontList$Custom", "leadHere", "(I)V"⟩ ⟨"FontList$Custom", "leadHere", "(I)V"⟩ : Cond) ∈ TB := TB_mem 707 (by decide +kernel) (by decide +kernel)
theorem kvX2_endClause : (.selects "FontList$Custom" ⟨"FontList$Custom", "endClause", "(I)V"⟩ ⟨"FontList$Custom", "endClause", "(I)V"⟩ : Cond) ∈ TB := TB_mem 711 (by decide +kernel) (by decide +kernel)
theorem kvX8_clear : (.selects "FontList$Tape" ⟨"FontList$Tape", "clear", "()V"⟩ ⟨"FontList$Tape", "clear", "()V"⟩ : Cond) ∈ TB := TB_mem 715 (by decide +kernel) (by decide +kernel)
theorem kvX6_exchange : (.selects "FontList$Reader" ⟨"FontList$Reader", "exchange", "(LFontList$Custom;)LFontList$Custom;"⟩ ⟨"FontList$Reader", "exchange", "(LFontList$Custom;)LFontList$Custom;"⟩ : Cond) ∈ TB := TB_mem 719 (by decide +kernel) (by decide +kernel)
theorem kvX9_clausesOf : (.selects "FontList$Usage" ⟨"FontList$Usage", "clausesOf", "(I)I"⟩ ⟨"FontList$Usage", "clausesOf", "(I)I"⟩ : Cond) ∈ TB := TB_mem 723 (by decide +kernel) (by decide +kernel)
theorem kvX11_customs : (.selects "FontList" ⟨"FontList", "customs", "(III)Z"⟩ ⟨"FontList", "customs", "(III)Z"⟩ : Cond) ∈ TB := TB_mem 727 (by decide +kernel) (by decide +kernel)
theorem kvX9_tell : (.selects "FontList$Usage" ⟨"FontList$Usage", "tell", "(III)V"⟩ ⟨"FontList$Usage", "tell", "(III)V"⟩ : Cond) ∈ TB := TB_mem 731 (by decide +kernel) (by decide +kernel)
theorem kvX11_tie : (.selects "FontList" ⟨"FontList", "tie", "(II)I"⟩ ⟨"FontList", "tie", "(II)I"⟩ : Cond) ∈ TB := TB_mem 735 (by decide +kernel) (by decide +kernel)
theorem kvX0_canTie : (.selects "FontList$Books" ⟨"FontList$Books", "canTie", "(II)Z"⟩ ⟨"FontList$Books", "canTie", "(II)Z"⟩ : Cond) ∈ TB := TB_mem 739 (by decide +kernel) (by decide +kernel)
theorem kvX11_family : (.selects "FontList" ⟨"FontList", "family", "(II)I"⟩ ⟨"FontList", "family", "(II)I"⟩ : Cond) ∈ TB := TB_mem 743 (by decide +kernel) (by decide +kernel)
theorem kvX0_knows : (.selects "FontList$Books" ⟨"FontList$Books", "knows", "(II)Z"⟩ ⟨"FontList$Books", "knows", "(II)Z"⟩ : Cond) ∈ TB := TB_mem 747 (by decide +kernel) (by decide +kernel)
theorem kvX3_gather : (.selects "FontList$Family" ⟨"FontList$Family", "gather", "(II)Z"⟩ ⟨"FontList$Family", "gather", "(II)Z"⟩ : Cond) ∈ TB := TB_mem 752 (by decide +kernel) (by decide +kernel)
theorem kvX4_goneBy : (.selects "FontList$Fonts" ⟨"FontList$Fonts", "goneBy", "(II)Z"⟩ ⟨"FontList$Fonts", "goneBy", "(II)Z"⟩ : Cond) ∈ TB := TB_mem 761 (by decide +kernel) (by decide +kernel)
theorem kvX11_points : (.selects "FontList" ⟨"FontList", "points", "(II)I"⟩ ⟨"FontList", "points", "(II)I"⟩ : Cond) ∈ TB := TB_mem 765 (by decide +kernel) (by decide +kernel)
theorem kvX3_worth : (.selects "FontList$Family" ⟨"FontList$Family", "worth", "(IILFontList$Usage;)I"⟩ ⟨"FontList$Family", "worth", "(IILFontList$Usage;)I"⟩ : Cond) ∈ TB := TB_mem 769 (by decide +kernel) (by decide +kernel)
theorem kvX9_inYear : (.selects "FontList$Usage" ⟨"FontList$Usage", "inYear", "(I)LFontList$Custom;"⟩ ⟨"FontList$Usage", "inYear", "(I)LFontList$Custom;"⟩ : Cond) ∈ TB := TB_mem 791 (by decide +kernel) (by decide +kernel)
theorem kvX9_isTold : (.selects "FontList$Usage" ⟨"FontList$Usage", "isTold", "(I)Z"⟩ ⟨"FontList$Usage", "isTold", "(I)Z"⟩ : Cond) ∈ TB := TB_mem 795 (by decide +kernel) (by decide +kernel)
theorem kvX2_firstFor : (.selects "FontList$Custom" ⟨"FontList$Custom", "firstFor", "([II)I"⟩ ⟨"FontList$Custom", "firstFor", "([II)I"⟩ : Cond) ∈ TB := TB_mem 800 (by decide +kernel) (by decide +kernel)
theorem kvX1_parentOf : (.selects "FontList$Couples" ⟨"FontList$Couples", "parentOf", "(II)I"⟩ ⟨"FontList$Couples", "parentOf", "(II)I"⟩ : Cond) ∈ TB := TB_mem 815 (by decide +kernel) (by decide +kernel)
theorem kvX3_namesFor : (.selects "FontList$Family" ⟨"FontList$Family", "namesFor", "(I)I"⟩ ⟨"FontList$Family", "namesFor", "(I)I"⟩ : Cond) ∈ TB := TB_mem 819 (by decide +kernel) (by decide +kernel)
theorem kvX3_due : (.selects "FontList$Family" ⟨"FontList$Family", "due", "(I)I"⟩ ⟨"FontList$Family", "due", "(I)I"⟩ : Cond) ∈ TB := TB_mem 835 (by decide +kernel) (by decide +kernel)
theorem kvX3_letterAt : (.selects "FontList$Family" ⟨"FontList$Family", "letterAt", "(I)I"⟩ ⟨"FontList$Family", "letterAt", "(I)I"⟩ : Cond) ∈ TB := TB_mem 839 (by decide +kernel) (by decide +kernel)
theorem kvX11_by : (.selects "FontList" ⟨"FontList", "by", "(III)I"⟩ ⟨"FontList", "by", "(III)I"⟩ : Cond) ∈ TB := TB_mem 844 (by decide +kernel) (by decide +kernel)
theorem kvX3_placeOf : (.selects "FontList$Family" ⟨"FontList$Family", "placeOf", "(I)I"⟩ ⟨"FontList$Family", "placeOf", "(I)I"⟩ : Cond) ∈ TB := TB_mem 852 (by decide +kernel) (by decide +kernel)
theorem kvX11_should : (.selects "FontList" ⟨"FontList", "should", "(III)I"⟩ ⟨"FontList", "should", "(III)I"⟩ : Cond) ∈ TB := TB_mem 879 (by decide +kernel) (by decide +kernel)
theorem kvX11_best : (.selects "FontList" ⟨"FontList", "best", "(I)I"⟩ ⟨"FontList", "best", "(I)I"⟩ : Cond) ∈ TB := TB_mem 884 (by decide +kernel) (by decide +kernel)
theorem kvX10_settle : (.selects "FontList$Ways" ⟨"FontList$Ways", "settle", "(LFontList$Usage;)V"⟩ ⟨"FontList$Ways", "settle", "(LFontList$Usage;)V"⟩ : Cond) ∈ TB := TB_mem 888 (by decide +kernel) (by decide +kernel)
theorem kvX0_tiesOf : (.selects "FontList$Books" ⟨"FontList$Books", "tiesOf", "(I)I"⟩ ⟨"FontList$Books", "tiesOf", "(I)I"⟩ : Cond) ∈ TB := TB_mem 901 (by decide +kernel) (by decide +kernel)
theorem kvX10_coupleOf : (.selects "FontList$Ways" ⟨"FontList$Ways", "coupleOf", "(I)I"⟩ ⟨"FontList$Ways", "coupleOf", "(I)I"⟩ : Cond) ∈ TB := TB_mem 923 (by decide +kernel) (by decide +kernel)
theorem kvX11_ways : (.selects "FontList" ⟨"FontList", "ways", "(I)J"⟩ ⟨"FontList", "ways", "(I)J"⟩ : Cond) ∈ TB := TB_mem 927 (by decide +kernel) (by decide +kernel)
theorem kvX10_mostPoints : (.selects "FontList$Ways" ⟨"FontList$Ways", "mostPoints", "()I"⟩ ⟨"FontList$Ways", "mostPoints", "()I"⟩ : Cond) ∈ TB := TB_mem 932 (by decide +kernel) (by decide +kernel)
theorem kvX10_howManyBest : (.selects "FontList$Ways" ⟨"FontList$Ways", "howManyBest", "()J"⟩ ⟨"FontList$Ways", "howManyBest", "()J"⟩ : Cond) ∈ TB := TB_mem 936 (by decide +kernel) (by decide +kernel)
theorem kvX10_howMany : (.selects "FontList$Ways" ⟨"FontList$Ways", "howMany", "()J"⟩ ⟨"FontList$Ways", "howMany", "()J"⟩ : Cond) ∈ TB := TB_mem 940 (by decide +kernel) (by decide +kernel)
theorem kvX10_gap : (.selects "FontList$Ways" ⟨"FontList$Ways", "gap", "()I"⟩ ⟨"FontList$Ways", "gap", "()I"⟩ : Cond) ∈ TB := TB_mem 944 (by decide +kernel) (by decide +kernel)
theorem kvX11_sure : (.selects "FontList" ⟨"FontList", "sure", "(II)I"⟩ ⟨"FontList", "sure", "(II)I"⟩ : Cond) ∈ TB := TB_mem 949 (by decide +kernel) (by decide +kernel)
theorem kvX10_alwaysOf : (.selects "FontList$Ways" ⟨"FontList$Ways", "alwaysOf", "(I)I"⟩ ⟨"FontList$Ways", "alwaysOf", "(I)I"⟩ : Cond) ∈ TB := TB_mem 953 (by decide +kernel) (by decide +kernel)
theorem kvX11_grand : (.selects "FontList" ⟨"FontList", "grand", "(II)I"⟩ ⟨"FontList", "grand", "(II)I"⟩ : Cond) ∈ TB := TB_mem 957 (by decide +kernel) (by decide +kernel)
theorem kvX10_familyOf : (.selects "FontList$Ways" ⟨"FontList$Ways", "familyOf", "(I)I"⟩ ⟨"FontList$Ways", "familyOf", "(I)I"⟩ : Cond) ∈ TB := TB_mem 962 (by decide +kernel) (by decide +kernel)
theorem kvX11_must : (.selects "FontList" ⟨"FontList", "must", "(III)I"⟩ ⟨"FontList", "must", "(III)I"⟩ : Cond) ∈ TB := TB_mem 968 (by decide +kernel) (by decide +kernel)
theorem kvX3_missing : (.selects "FontList$Family" ⟨"FontList$Family", "missing", "(ILFontList$Usage;)I"⟩ ⟨"FontList$Family", "missing", "(ILFontList$Usage;)I"⟩ : Cond) ∈ TB := TB_mem 972 (by decide +kernel) (by decide +kernel)
theorem kvX11_judge : (.selects "FontList" ⟨"FontList", "judge", "()I"⟩ ⟨"FontList", "judge", "()I"⟩ : Cond) ∈ TB := TB_mem 994 (by decide +kernel) (by decide +kernel)
theorem kvX7_take : (.selects "FontList$Row" ⟨"FontList$Row", "take", "(LFontList$Tape;)I"⟩ ⟨"FontList$Row", "take", "(LFontList$Tape;)I"⟩ : Cond) ∈ TB := TB_mem 998 (by decide +kernel) (by decide +kernel)
theorem kvX7_worthBy : (.selects "FontList$Row" ⟨"FontList$Row", "worthBy", "(LFontList$Usage;)I"⟩ ⟨"FontList$Row", "worthBy", "(LFontList$Usage;)I"⟩ : Cond) ∈ TB := TB_mem 1013 (by decide +kernel) (by decide +kernel)
theorem kvX11_learnt : (.selects "FontList" ⟨"FontList", "learnt", "(III)I"⟩ ⟨"FontList", "learnt", "(III)I"⟩ : Cond) ∈ TB := TB_mem 1019 (by decide +kernel) (by decide +kernel)
theorem kvX9_anyTold : (.selects "FontList$Usage" ⟨"FontList$Usage", "anyTold", "()Z"⟩ ⟨"FontList$Usage", "anyTold", "()Z"⟩ : Cond) ∈ TB := TB_mem 1023 (by decide +kernel) (by decide +kernel)
theorem kvX7_learn : (.selects "FontList$Row" ⟨"FontList$Row", "learn", "(LFontList$Usage;II)I"⟩ ⟨"FontList$Row", "learn", "(LFontList$Usage;II)I"⟩ : Cond) ∈ TB := TB_mem 1028 (by decide +kernel) (by decide +kernel)
theorem kvX4_changesAt : (.selects "FontList$Fonts" ⟨"FontList$Fonts", "changesAt", "(I)Z"⟩ ⟨"FontList$Fonts", "changesAt", "(I)Z"⟩ : Cond) ∈ TB := TB_mem 1034 (by decide +kernel) (by decide +kernel)
theorem kvX11_little : (.selects "FontList" ⟨"FontList", "little", "(I)I"⟩ ⟨"FontList", "little", "(I)I"⟩ : Cond) ∈ TB := TB_mem 1040 (by decide +kernel) (by decide +kernel)
theorem kvX11_check : (.selects "FontList" ⟨"FontList", "check", "()I"⟩ ⟨"FontList", "check", "()I"⟩ : Cond) ∈ TB := TB_mem 1048 (by decide +kernel) (by decide +kernel)
theorem kvX11_look : (.selects "FontList" ⟨"FontList", "look", "(II)I"⟩ ⟨"FontList", "look", "(II)I"⟩ : Cond) ∈ TB := TB_mem 1053 (by decide +kernel) (by decide +kernel)
theorem kvX11_count : (.selects "FontList" ⟨"FontList", "count", "(I)I"⟩ ⟨"FontList", "count", "(I)I"⟩ : Cond) ∈ TB := TB_mem 1057 (by decide +kernel) (by decide +kernel)
theorem kvX12_name : (.selects "FontListModel" ⟨"FontListModel", "name", "(II)I"⟩ ⟨"FontListModel", "name", "(II)I"⟩ : Cond) ∈ TB := TB_mem 1276 (by decide +kernel) (by decide +kernel)
theorem kvX12_couple : (.selects "FontListModel" ⟨"FontListModel", "couple", "(IIII)I"⟩ ⟨"FontListModel", "couple", "(IIII)I"⟩ : Cond) ∈ TB := TB_mem 1284 (by decide +kernel) (by decide +kernel)
theorem kvX12_parent : (.selects "FontListModel" ⟨"FontListModel", "parent", "(III)Z"⟩ ⟨"FontListModel", "parent", "(III)Z"⟩ : Cond) ∈ TB := TB_mem 1300 (by decide +kernel) (by decide +kernel)
theorem kvX12_christening : (.selects "FontListModel" ⟨"FontListModel", "christening", "(IIIII)I"⟩ ⟨"FontListModel", "christening", "(IIIII)I"⟩ : Cond) ∈ TB := TB_mem 1309 (by decide +kernel) (by decide +kernel)
theorem kvX12_died : (.selects "FontListModel" ⟨"FontListModel", "died", "(II)Z"⟩ ⟨"FontListModel", "died", "(II)Z"⟩ : Cond) ∈ TB := TB_mem 1313 (by decide +kernel) (by decide +kernel)
theorem kvX12_weighs : (.selects "FontListModel" ⟨"FontListModel", "weighs", "(II)Z"⟩ ⟨"FontListModel", "weighs", "(II)Z"⟩ : Cond) ∈ TB := TB_mem 1321 (by decide +kernel) (by decide +kernel)
theorem kvX12_feed : (.selects "FontListModel" ⟨"FontListModel", "feed", "(IIIII)I"⟩ ⟨"FontListModel", "feed", "(IIIII)I"⟩ : Cond) ∈ TB := TB_mem 1326 (by decide +kernel) (by decide +kernel)
theorem kvX12_custom : (.selects "FontListModel" ⟨"FontListModel", "custom", "(II)I"⟩ ⟨"FontListModel", "custom", "(II)I"⟩ : Cond) ∈ TB := TB_mem 1334 (by decide +kernel) (by decide +kernel)
theorem kvX12_customs : (.selects "FontListModel" ⟨"FontListModel", "customs", "(III)Z"⟩ ⟨"FontListModel", "customs", "(III)Z"⟩ : Cond) ∈ TB := TB_mem 1428 (by decide +kernel) (by decide +kernel)
theorem kvX12_tie : (.selects "FontListModel" ⟨"FontListModel", "tie", "(II)I"⟩ ⟨"FontListModel", "tie", "(II)I"⟩ : Cond) ∈ TB := TB_mem 1433 (by decide +kernel) (by decide +kernel)
theorem kvX12_family : (.selects "FontListModel" ⟨"FontListModel", "family", "(II)I"⟩ ⟨"FontListModel", "family", "(II)I"⟩ : Cond) ∈ TB := TB_mem 1441 (by decide +kernel) (by decide +kernel)
theorem kvX12_points : (.selects "FontListModel" ⟨"FontListModel", "points", "(II)I"⟩ ⟨"FontListModel", "points", "(II)I"⟩ : Cond) ∈ TB := TB_mem 1472 (by decide +kernel) (by decide +kernel)
theorem kvX12_by : (.selects "FontListModel" ⟨"FontListModel", "by", "(III)I"⟩ ⟨"FontListModel", "by", "(III)I"⟩ : Cond) ∈ TB := TB_mem 1538 (by decide +kernel) (by decide +kernel)
theorem kvX12_should : (.selects "FontListModel" ⟨"FontListModel", "should", "(III)I"⟩ ⟨"FontListModel", "should", "(III)I"⟩ : Cond) ∈ TB := TB_mem 1546 (by decide +kernel) (by decide +kernel)
theorem kvX12_best : (.selects "FontListModel" ⟨"FontListModel", "best", "(I)I"⟩ ⟨"FontListModel", "best", "(I)I"⟩ : Cond) ∈ TB := TB_mem 1550 (by decide +kernel) (by decide +kernel)
theorem kvX12_ways : (.selects "FontListModel" ⟨"FontListModel", "ways", "(I)J"⟩ ⟨"FontListModel", "ways", "(I)J"⟩ : Cond) ∈ TB := TB_mem 1582 (by decide +kernel) (by decide +kernel)
theorem kvX12_sure : (.selects "FontListModel" ⟨"FontListModel", "sure", "(II)I"⟩ ⟨"FontListModel", "sure", "(II)I"⟩ : Cond) ∈ TB := TB_mem 1587 (by decide +kernel) (by decide +kernel)
theorem kvX12_grand : (.selects "FontListModel" ⟨"FontListModel", "grand", "(II)I"⟩ ⟨"FontListModel", "grand", "(II)I"⟩ : Cond) ∈ TB := TB_mem 1591 (by decide +kernel) (by decide +kernel)
theorem kvX12_must : (.selects "FontListModel" ⟨"FontListModel", "must", "(III)I"⟩ ⟨"FontListModel", "must", "(III)I"⟩ : Cond) ∈ TB := TB_mem 1599 (by decide +kernel) (by decide +kernel)
theorem kvX12_judge : (.selects "FontListModel" ⟨"FontListModel", "judge", "()I"⟩ ⟨"FontListModel", "judge", "()I"⟩ : Cond) ∈ TB := TB_mem 1610 (by decide +kernel) (by decide +kernel)
theorem kvX12_learnt : (.selects "FontListModel" ⟨"FontListModel", "learnt", "(III)I"⟩ ⟨"FontListModel", "learnt", "(III)I"⟩ : Cond) ∈ TB := TB_mem 1628 (by decide +kernel) (by decide +kernel)
theorem kvX12_little : (.selects "FontListModel" ⟨"FontListModel", "little", "(I)I"⟩ ⟨"FontListModel", "little", "(I)I"⟩ : Cond) ∈ TB := TB_mem 1632 (by decide +kernel) (by decide +kernel)
theorem kvX12_check : (.selects "FontListModel" ⟨"FontListModel", "check", "()I"⟩ ⟨"FontListModel", "check", "()I"⟩ : Cond) ∈ TB := TB_mem 1636 (by decide +kernel) (by decide +kernel)
theorem kvX12_look : (.selects "FontListModel" ⟨"FontListModel", "look", "(II)I"⟩ ⟨"FontListModel", "look", "(II)I"⟩ : Cond) ∈ TB := TB_mem 1640 (by decide +kernel) (by decide +kernel)
theorem kvX12_count : (.selects "FontListModel" ⟨"FontListModel", "count", "(I)I"⟩ ⟨"FontListModel", "count", "(I)I"⟩ : Cond) ∈ TB := TB_mem 1644 (by decide +kernel) (by decide +kernel)
theorem kvX4_putInOrder : (.selects "FontList$Fonts" ⟨"FontList$Fonts", "putInOrder", "(I)V"⟩ ⟨"FontList$Fonts", "putInOrder", "(I)V"⟩ : Cond) ∈ TB := TB_mem 0 (by decide +kernel) (by decide +kernel)
theorem kvX6_clause : (.selects "FontList$Reader" ⟨"FontList$Reader", "clause", "()Z"⟩ ⟨"FontList$Reader", "clause", "()Z"⟩ : Cond) ∈ TB := TB_mem 1 (by decide +kernel) (by decide +kernel)
theorem kvX6_peek : (.selects "FontList$Reader" ⟨"FontList$Reader", "peek", "()C"⟩ ⟨"FontList$Reader", "peek", "()C"⟩ : Cond) ∈ TB := TB_mem 2 (by decide +kernel) (by decide +kernel)
theorem kvX6_refuse : (.selects "FontList$Reader" ⟨"FontList$Reader", "refuse", "(I)Z"⟩ ⟨"FontList$Reader", "refuse", "(I)Z"⟩ : Cond) ∈ TB := TB_mem 3 (by decide +kernel) (by decide +kernel)
theorem kvX6_take : (.selects "FontList$Reader" ⟨"FontList$Reader", "take", "(C)Z"⟩ ⟨"FontList$Reader", "take", "(C)Z"⟩ : Cond) ∈ TB := TB_mem 4 (by decide +kernel) (by decide +kernel)
theorem kvX6_chain : (.selects "FontList$Reader" ⟨"FontList$Reader", "chain", "(II)Z"⟩ ⟨"FontList$Reader", "chain", "(II)Z"⟩ : Cond) ∈ TB := TB_mem 5 (by decide +kernel) (by decide +kernel)
theorem kvX6_operand : (.selects "FontList$Reader" ⟨"FontList$Reader", "operand", "(II)Z"⟩ ⟨"FontList$Reader", "operand", "(II)Z"⟩ : Cond) ∈ TB := TB_mem 6 (by decide +kernel) (by decide +kernel)
theorem kvX6_piece : (.selects "FontList$Reader" ⟨"FontList$Reader", "piece", "(I)Z"⟩ ⟨"FontList$Reader", "piece", "(I)Z"⟩ : Cond) ∈ TB := TB_mem 7 (by decide +kernel) (by decide +kernel)
theorem kvX6_comparison : (.selects "FontList$Reader" ⟨"FontList$Reader", "comparison", "(I)Z"⟩ ⟨"FontList$Reader", "comparison", "(I)Z"⟩ : Cond) ∈ TB := TB_mem 8 (by decide +kernel) (by decide +kernel)
theorem kvX6_factor : (.selects "FontList$Reader" ⟨"FontList$Reader", "factor", "(I)Z"⟩ ⟨"FontList$Reader", "factor", "(I)Z"⟩ : Cond) ∈ TB := TB_mem 9 (by decide +kernel) (by decide +kernel)
theorem kvX6_number : (.selects "FontList$Reader" ⟨"FontList$Reader", "number", "()Z"⟩ ⟨"FontList$Reader", "number", "()Z"⟩ : Cond) ∈ TB := TB_mem 10 (by decide +kernel) (by decide +kernel)
theorem kvX3_fitsElders : (.selects "FontList$Family" ⟨"FontList$Family", "fitsElders", "(I)Z"⟩ ⟨"FontList$Family", "fitsElders", "(I)Z"⟩ : Cond) ∈ TB := TB_mem 11 (by decide +kernel) (by decide +kernel)
theorem kvX3_ask : (.selects "FontList$Family" ⟨"FontList$Family", "ask", "(LFontList$Usage;)V"⟩ ⟨"FontList$Family", "ask", "(LFontList$Usage;)V"⟩ : Cond) ∈ TB := TB_mem 12 (by decide +kernel) (by decide +kernel)
theorem kvX3_observe : (.selects "FontList$Family" ⟨"FontList$Family", "observe", "(I)I"⟩ ⟨"FontList$Family", "observe", "(I)I"⟩ : Cond) ∈ TB := TB_mem 13 (by decide +kernel) (by decide +kernel)
theorem kvX3_sexAt : (.selects "FontList$Family" ⟨"FontList$Family", "sexAt", "(I)I"⟩ ⟨"FontList$Family", "sexAt", "(I)I"⟩ : Cond) ∈ TB := TB_mem 14 (by decide +kernel) (by decide +kernel)
theorem kvX3_isTwin : (.selects "FontList$Family" ⟨"FontList$Family", "isTwin", "(I)Z"⟩ ⟨"FontList$Family", "isTwin", "(I)Z"⟩ : Cond) ∈ TB := TB_mem 15 (by decide +kernel) (by decide +kernel)
theorem kvX2_holds : (.selects "FontList$Custom" ⟨"FontList$Custom", "holds", "(II[I)Z"⟩ ⟨"FontList$Custom", "holds", "(II[I)Z"⟩ : Cond) ∈ TB := TB_mem 16 (by decide +kernel) (by decide +kernel)
theorem kvX3_gainOfAll : (.selects "FontList$Family" ⟨"FontList$Family", "gainOfAll", "(II)I"⟩ ⟨"FontList$Family", "gainOfAll", "(II)I"⟩ : Cond) ∈ TB := TB_mem 17 (by decide +kernel) (by decide +kernel)
theorem kvX3_gain : (.selects "FontList$Family" ⟨"FontList$Family", "gain", "(II)I"⟩ ⟨"FontList$Family", "gain", "(II)I"⟩ : Cond) ∈ TB := TB_mem 18 (by decide +kernel) (by decide +kernel)
theorem kvX11_placeAsked : (.selects "FontList" ⟨"FontList", "placeAsked", "(III)I"⟩ ⟨"FontList", "placeAsked", "(III)I"⟩ : Cond) ∈ TB := TB_mem 19 (by decide +kernel) (by decide +kernel)
theorem kvX10_whole : (.selects "FontList$Ways" ⟨"FontList$Ways", "whole", "()I"⟩ ⟨"FontList$Ways", "whole", "()I"⟩ : Cond) ∈ TB := TB_mem 20 (by decide +kernel) (by decide +kernel)
theorem kvX10_startEmpty : (.selects "FontList$Ways" ⟨"FontList$Ways", "startEmpty", "(I)V"⟩ ⟨"FontList$Ways", "startEmpty", "(I)V"⟩ : Cond) ∈ TB := TB_mem 21 (by decide +kernel) (by decide +kernel)
theorem kvX10_widen : (.selects "FontList$Ways" ⟨"FontList$Ways", "widen", "(III)V"⟩ ⟨"FontList$Ways", "widen", "(III)V"⟩ : Cond) ∈ TB := TB_mem 22 (by decide +kernel) (by decide +kernel)
theorem kvX3_foresee : (.selects "FontList$Family" ⟨"FontList$Family", "foresee", "(LFontList$Usage;)V"⟩ ⟨"FontList$Family", "foresee", "(LFontList$Usage;)V"⟩ : Cond) ∈ TB := TB_mem 23 (by decide +kernel) (by decide +kernel)
theorem kvX3_mayHold : (.selects "FontList$Family" ⟨"FontList$Family", "mayHold", "(II)Z"⟩ ⟨"FontList$Family", "mayHold", "(II)Z"⟩ : Cond) ∈ TB := TB_mem 24 (by decide +kernel) (by decide +kernel)
theorem kvX3_fewest : (.selects "FontList$Family" ⟨"FontList$Family", "fewest", "(I)I"⟩ ⟨"FontList$Family", "fewest", "(I)I"⟩ : Cond) ∈ TB := TB_mem 25 (by decide +kernel) (by decide +kernel)
theorem kvX3_suits : (.selects "FontList$Family" ⟨"FontList$Family", "suits", "(II)Z"⟩ ⟨"FontList$Family", "suits", "(II)Z"⟩ : Cond) ∈ TB := TB_mem 26 (by decide +kernel) (by decide +kernel)
theorem kvX7_firstBroken : (.selects "FontList$Row" ⟨"FontList$Row", "firstBroken", "()I"⟩ ⟨"FontList$Row", "firstBroken", "()I"⟩ : Cond) ∈ TB := TB_mem 27 (by decide +kernel) (by decide +kernel)
theorem kvX11_fewerWithout : (.selects "FontList" ⟨"FontList", "fewerWithout", "(II)I"⟩ ⟨"FontList", "fewerWithout", "(II)I"⟩ : Cond) ∈ TB := TB_mem 28 (by decide +kernel) (by decide +kernel)
theorem kvX12_isOf : (.selects "FontListModel" ⟨"FontListModel", "isOf", "(II)Z"⟩ ⟨"FontListModel", "isOf", "(II)Z"⟩ : Cond) ∈ TB := TB_mem 29 (by decide +kernel) (by decide +kernel)
theorem kvX12_isName : (.selects "FontListModel" ⟨"FontListModel", "isName", "(I)Z"⟩ ⟨"FontListModel", "isName", "(I)Z"⟩ : Cond) ∈ TB := TB_mem 30 (by decide +kernel) (by decide +kernel)
theorem kvX12_isCouple : (.selects "FontListModel" ⟨"FontListModel", "isCouple", "(I)Z"⟩ ⟨"FontListModel", "isCouple", "(I)Z"⟩ : Cond) ∈ TB := TB_mem 31 (by decide +kernel) (by decide +kernel)
theorem kvX12_isFont : (.selects "FontListModel" ⟨"FontListModel", "isFont", "(I)Z"⟩ ⟨"FontListModel", "isFont", "(I)Z"⟩ : Cond) ∈ TB := TB_mem 32 (by decide +kernel) (by decide +kernel)
theorem kvX12_push : (.selects "FontListModel" ⟨"FontListModel", "push", "(I)V"⟩ ⟨"FontListModel", "push", "(I)V"⟩ : Cond) ∈ TB := TB_mem 33 (by decide +kernel) (by decide +kernel)
theorem kvX12_isGood : (.selects "FontListModel" ⟨"FontListModel", "isGood", "()Z"⟩ ⟨"FontListModel", "isGood", "()Z"⟩ : Cond) ∈ TB := TB_mem 34 (by decide +kernel) (by decide +kernel)
theorem kvX12_clause : (.selects "FontListModel" ⟨"FontListModel", "clause", "()V"⟩ ⟨"FontListModel", "clause", "()V"⟩ : Cond) ∈ TB := TB_mem 35 (by decide +kernel) (by decide +kernel)
theorem kvX12_here : (.selects "FontListModel" ⟨"FontListModel", "here", "()I"⟩ ⟨"FontListModel", "here", "()I"⟩ : Cond) ∈ TB := TB_mem 36 (by decide +kernel) (by decide +kernel)
theorem kvX12_wrongs : (.selects "FontListModel" ⟨"FontListModel", "wrongs", "(II)V"⟩ ⟨"FontListModel", "wrongs", "(II)V"⟩ : Cond) ∈ TB := TB_mem 37 (by decide +kernel) (by decide +kernel)
theorem kvX12_condition : (.selects "FontListModel" ⟨"FontListModel", "condition", "()V"⟩ ⟨"FontListModel", "condition", "()V"⟩ : Cond) ∈ TB := TB_mem 38 (by decide +kernel) (by decide +kernel)
theorem kvX12_opens : (.selects "FontListModel" ⟨"FontListModel", "opens", "()V"⟩ ⟨"FontListModel", "opens", "()V"⟩ : Cond) ∈ TB := TB_mem 39 (by decide +kernel) (by decide +kernel)
theorem kvX12_puts : (.selects "FontListModel" ⟨"FontListModel", "puts", "(I)V"⟩ ⟨"FontListModel", "puts", "(I)V"⟩ : Cond) ∈ TB := TB_mem 40 (by decide +kernel) (by decide +kernel)
theorem kvX12_pieceOfC : (.selects "FontListModel" ⟨"FontListModel", "pieceOfC", "()V"⟩ ⟨"FontListModel", "pieceOfC", "()V"⟩ : Cond) ∈ TB := TB_mem 41 (by decide +kernel) (by decide +kernel)
theorem kvX12_factor : (.selects "FontListModel" ⟨"FontListModel", "factor", "()V"⟩ ⟨"FontListModel", "factor", "()V"⟩ : Cond) ∈ TB := TB_mem 42 (by decide +kernel) (by decide +kernel)
theorem kvX12_seesDigit : (.selects "FontListModel" ⟨"FontListModel", "seesDigit", "()Z"⟩ ⟨"FontListModel", "seesDigit", "()Z"⟩ : Cond) ∈ TB := TB_mem 43 (by decide +kernel) (by decide +kernel)
theorem kvX12_reads : (.selects "FontListModel" ⟨"FontListModel", "reads", "()I"⟩ ⟨"FontListModel", "reads", "()I"⟩ : Cond) ∈ TB := TB_mem 44 (by decide +kernel) (by decide +kernel)
theorem kvX12_emit : (.selects "FontListModel" ⟨"FontListModel", "emit", "(II)V"⟩ ⟨"FontListModel", "emit", "(II)V"⟩ : Cond) ∈ TB := TB_mem 45 (by decide +kernel) (by decide +kernel)
theorem kvX12_goesOn : (.selects "FontListModel" ⟨"FontListModel", "goesOn", "()Z"⟩ ⟨"FontListModel", "goesOn", "()Z"⟩ : Cond) ∈ TB := TB_mem 46 (by decide +kernel) (by decide +kernel)
theorem kvX12_sums : (.selects "FontListModel" ⟨"FontListModel", "sums", "(Z)V"⟩ ⟨"FontListModel", "sums", "(Z)V"⟩ : Cond) ∈ TB := TB_mem 47 (by decide +kernel) (by decide +kernel)
theorem kvX12_top : (.selects "FontListModel" ⟨"FontListModel", "top", "()I"⟩ ⟨"FontListModel", "top", "()I"⟩ : Cond) ∈ TB := TB_mem 48 (by decide +kernel) (by decide +kernel)
theorem kvX12_ends : (.selects "FontListModel" ⟨"FontListModel", "ends", "()V"⟩ ⟨"FontListModel", "ends", "()V"⟩ : Cond) ∈ TB := TB_mem 49 (by decide +kernel) (by decide +kernel)
theorem kvX12_goesBehind : (.selects "FontListModel" ⟨"FontListModel", "goesBehind", "()Z"⟩ ⟨"FontListModel", "goesBehind", "()Z"⟩ : Cond) ∈ TB := TB_mem 50 (by decide +kernel) (by decide +kernel)
theorem kvX12_joins : (.selects "FontListModel" ⟨"FontListModel", "joins", "(Z)V"⟩ ⟨"FontListModel", "joins", "(Z)V"⟩ : Cond) ∈ TB := TB_mem 51 (by decide +kernel) (by decide +kernel)
theorem kvX12_canTie : (.selects "FontListModel" ⟨"FontListModel", "canTie", "(II)Z"⟩ ⟨"FontListModel", "canTie", "(II)Z"⟩ : Cond) ∈ TB := TB_mem 52 (by decide +kernel) (by decide +kernel)
theorem kvX12_isSet : (.selects "FontListModel" ⟨"FontListModel", "isSet", "(I)Z"⟩ ⟨"FontListModel", "isSet", "(I)Z"⟩ : Cond) ∈ TB := TB_mem 53 (by decide +kernel) (by decide +kernel)
theorem kvX12_canFamily : (.selects "FontListModel" ⟨"FontListModel", "canFamily", "(II)Z"⟩ ⟨"FontListModel", "canFamily", "(II)Z"⟩ : Cond) ∈ TB := TB_mem 54 (by decide +kernel) (by decide +kernel)
theorem kvX12_takes : (.selects "FontListModel" ⟨"FontListModel", "takes", "(II)V"⟩ ⟨"FontListModel", "takes", "(II)V"⟩ : Cond) ∈ TB := TB_mem 55 (by decide +kernel) (by decide +kernel)
theorem kvX12_isElder : (.selects "FontListModel" ⟨"FontListModel", "isElder", "(II)Z"⟩ ⟨"FontListModel", "isElder", "(II)Z"⟩ : Cond) ∈ TB := TB_mem 56 (by decide +kernel) (by decide +kernel)
theorem kvX12_canBe : (.selects "FontListModel" ⟨"FontListModel", "canBe", "()Z"⟩ ⟨"FontListModel", "canBe", "()Z"⟩ : Cond) ∈ TB := TB_mem 57 (by decide +kernel) (by decide +kernel)
theorem kvX12_isGone : (.selects "FontListModel" ⟨"FontListModel", "isGone", "(II)Z"⟩ ⟨"FontListModel", "isGone", "(II)Z"⟩ : Cond) ∈ TB := TB_mem 58 (by decide +kernel) (by decide +kernel)
theorem kvX12_pointsOf : (.selects "FontListModel" ⟨"FontListModel", "pointsOf", "(II)I"⟩ ⟨"FontListModel", "pointsOf", "(II)I"⟩ : Cond) ∈ TB := TB_mem 59 (by decide +kernel) (by decide +kernel)
theorem kvX12_asks : (.selects "FontListModel" ⟨"FontListModel", "asks", "()V"⟩ ⟨"FontListModel", "asks", "()V"⟩ : Cond) ∈ TB := TB_mem 60 (by decide +kernel) (by decide +kernel)
theorem kvX12_letterOf : (.selects "FontListModel" ⟨"FontListModel", "letterOf", "(II)I"⟩ ⟨"FontListModel", "letterOf", "(II)I"⟩ : Cond) ∈ TB := TB_mem 61 (by decide +kernel) (by decide +kernel)
theorem kvX12_isThere : (.selects "FontListModel" ⟨"FontListModel", "isThere", "(II)Z"⟩ ⟨"FontListModel", "isThere", "(II)Z"⟩ : Cond) ∈ TB := TB_mem 62 (by decide +kernel) (by decide +kernel)
theorem kvX12_deadOf : (.selects "FontListModel" ⟨"FontListModel", "deadOf", "(I)I"⟩ ⟨"FontListModel", "deadOf", "(I)I"⟩ : Cond) ∈ TB := TB_mem 63 (by decide +kernel) (by decide +kernel)
theorem kvX12_holds : (.selects "FontListModel" ⟨"FontListModel", "holds", "(III)Z"⟩ ⟨"FontListModel", "holds", "(III)Z"⟩ : Cond) ∈ TB := TB_mem 64 (by decide +kernel) (by decide +kernel)
theorem kvX12_does : (.selects "FontListModel" ⟨"FontListModel", "does", "(II)V"⟩ ⟨"FontListModel", "does", "(II)V"⟩ : Cond) ∈ TB := TB_mem 65 (by decide +kernel) (by decide +kernel)
theorem kvX12_value : (.selects "FontListModel" ⟨"FontListModel", "value", "(III)I"⟩ ⟨"FontListModel", "value", "(III)I"⟩ : Cond) ∈ TB := TB_mem 66 (by decide +kernel) (by decide +kernel)
theorem kvX12_told : (.selects "FontListModel" ⟨"FontListModel", "told", "(II)I"⟩ ⟨"FontListModel", "told", "(II)I"⟩ : Cond) ∈ TB := TB_mem 67 (by decide +kernel) (by decide +kernel)
theorem kvX12_bestNames : (.selects "FontListModel" ⟨"FontListModel", "bestNames", "(I)I"⟩ ⟨"FontListModel", "bestNames", "(I)I"⟩ : Cond) ∈ TB := TB_mem 68 (by decide +kernel) (by decide +kernel)
theorem kvX12_isBy : (.selects "FontListModel" ⟨"FontListModel", "isBy", "(II)Z"⟩ ⟨"FontListModel", "isBy", "(II)Z"⟩ : Cond) ∈ TB := TB_mem 69 (by decide +kernel) (by decide +kernel)
theorem kvX12_brings : (.selects "FontListModel" ⟨"FontListModel", "brings", "(II)I"⟩ ⟨"FontListModel", "brings", "(II)I"⟩ : Cond) ∈ TB := TB_mem 70 (by decide +kernel) (by decide +kernel)
theorem kvX12_pointsBy : (.selects "FontListModel" ⟨"FontListModel", "pointsBy", "(II)I"⟩ ⟨"FontListModel", "pointsBy", "(II)I"⟩ : Cond) ∈ TB := TB_mem 71 (by decide +kernel) (by decide +kernel)
theorem kvX12_placeOf : (.selects "FontListModel" ⟨"FontListModel", "placeOf", "(III)I"⟩ ⟨"FontListModel", "placeOf", "(III)I"⟩ : Cond) ∈ TB := TB_mem 72 (by decide +kernel) (by decide +kernel)
theorem kvX12_finds : (.selects "FontListModel" ⟨"FontListModel", "finds", "()V"⟩ ⟨"FontListModel", "finds", "()V"⟩ : Cond) ∈ TB := TB_mem 73 (by decide +kernel) (by decide +kernel)
theorem kvX12_families : (.selects "FontListModel" ⟨"FontListModel", "families", "()V"⟩ ⟨"FontListModel", "families", "()V"⟩ : Cond) ∈ TB := TB_mem 74 (by decide +kernel) (by decide +kernel)
theorem kvX12_allows : (.selects "FontListModel" ⟨"FontListModel", "allows", "()V"⟩ ⟨"FontListModel", "allows", "()V"⟩ : Cond) ∈ TB := TB_mem 75 (by decide +kernel) (by decide +kernel)
theorem kvX12_works : (.selects "FontListModel" ⟨"FontListModel", "works", "()V"⟩ ⟨"FontListModel", "works", "()V"⟩ : Cond) ∈ TB := TB_mem 76 (by decide +kernel) (by decide +kernel)
theorem kvX12_barred : (.selects "FontListModel" ⟨"FontListModel", "barred", "(I)I"⟩ ⟨"FontListModel", "barred", "(I)I"⟩ : Cond) ∈ TB := TB_mem 77 (by decide +kernel) (by decide +kernel)
theorem kvX12_comes : (.selects "FontListModel" ⟨"FontListModel", "comes", "(IIJ)V"⟩ ⟨"FontListModel", "comes", "(IIJ)V"⟩ : Cond) ∈ TB := TB_mem 78 (by decide +kernel) (by decide +kernel)
theorem kvX12_setOf : (.selects "FontListModel" ⟨"FontListModel", "setOf", "(I)I"⟩ ⟨"FontListModel", "setOf", "(I)I"⟩ : Cond) ∈ TB := TB_mem 79 (by decide +kernel) (by decide +kernel)
theorem kvX12_needs : (.selects "FontListModel" ⟨"FontListModel", "needs", "(II)V"⟩ ⟨"FontListModel", "needs", "(II)V"⟩ : Cond) ∈ TB := TB_mem 80 (by decide +kernel) (by decide +kernel)
theorem kvX12_wayOf : (.selects "FontListModel" ⟨"FontListModel", "wayOf", "()I"⟩ ⟨"FontListModel", "wayOf", "()I"⟩ : Cond) ∈ TB := TB_mem 81 (by decide +kernel) (by decide +kernel)
theorem kvX12_setBy : (.selects "FontListModel" ⟨"FontListModel", "setBy", "(I)I"⟩ ⟨"FontListModel", "setBy", "(I)I"⟩ : Cond) ∈ TB := TB_mem 82 (by decide +kernel) (by decide +kernel)
theorem kvX12_wayPoints : (.selects "FontListModel" ⟨"FontListModel", "wayPoints", "()I"⟩ ⟨"FontListModel", "wayPoints", "()I"⟩ : Cond) ∈ TB := TB_mem 83 (by decide +kernel) (by decide +kernel)
end
section
/-! THE LAYER: an abstract machine over ints as Int, references as places in a world; RJ wraps W, CT wraps Met -/
abbrev AV : Type := Int ⊕ (Int ⊕ Option Nat)
abbrev vI (x : Int) : AV := .inl x
abbrev vL (x : Int) : AV := .inr (.inl x)
abbrev vR (r : Option Nat) : AV := .inr (.inr r)
abbrev GG : Type := Nat → Nat → Int
abbrev RR : Type := Nat → Nat → Option Nat
abbrev SH : Type := List (Nat × Nat)
abbrev i32 (x : Int) : Int32 := Int32.ofInt x
abbrev i64 (x : Int) : Int64 := Int64.ofInt x
def inI (x : Int) : Prop := -2147483648 ≤ x ∧ x < 2147483648
def inL (x : Int) : Prop := -9223372036854775808 ≤ x ∧ x < 9223372036854775808
def w32 (x : Int) : Int := (x + 2147483648) % 4294967296 - 2147483648
def w64 (x : Int) : Int := (x + 9223372036854775808) % 18446744073709551616 - 9223372036854775808
def up2 (f : GG) (c k : Nat) (v : Int) : GG := fun c' k' => if c' = c ∧ k' = k then v else f c' k'
def upR (f : RR) (c k : Nat) (v : Option Nat) : RR := fun c' k' => if c' = c ∧ k' = k then v else f c' k'
def cv (ad : Nat → Nat) : AV → Value
  | .inl x => .int (i32 x)
  | .inr (.inl x) => .long (i64 x)
  | .inr (.inr r) => va_rf (r.map ad)
def okr (n a : Nat) : Prop := a < n ∨ 100000 ≤ a
def okv (n : Nat) : AV → Prop
  | .inl x => inI x
  | .inr (.inl x) => inL x
  | .inr (.inr r) => ∀ a, r = some a → okr n a
def okh (n : Nat) (g z : GG) (r : RR) : Prop := (∀ c k, inI (g c k)) ∧ (∀ c k, inL (z c k)) ∧ ∀ c k a, r c k = some a → okr n a
def fv (ad : Nat → Nat) (g z : GG) (r : RR) (c ci : Nat) : List Value := (fk ci).mapIdx fun j t => if t = 0 then .int (i32 (g c j)) else if t = 1 then .long (i64 (z c j)) else va_rf ((r c j).map ad)
def ce (cy : Nat → ClassId) (ad : Nat → Nat) (g z : GG) (r : RR) (c : Nat) (q : Nat × Nat) : va_E :=
  if q.1 < 13 then .inr (q.1, fv ad g z r c q.1)
  else if q.1 = 16 then .inl (cy 16, q.2, .inr (.inl fun j => i64 (z c j)))
  else if q.1 = 18 then .inl (cy 18, q.2, .inr (.inr (.inr (.inr fun j => (r c j).map ad))))
  else .inl (cy q.1, q.2, .inl fun j => i32 (g c j))
def wd (cy : Nat → ClassId) (ad : Nat → Nat) (sh : SH) (g z : GG) (r : RR) : va_W := sh.mapIdx fun c q => (ad c, ce cy ad g z r c q)
def tyL (cy : Nat → ClassId) : List (ClassId × FieldType) := [(cy 13, .byte), (cy 14, .char), (cy 15, .int), (cy 16, .long), (cy 17, .boolean), (cy 18, .object "FontList$Custom")]
def sxL : List Nat := [9, 8, 1, 1, 2, 3]
def sxB : List (List Int32) := [[110, 98, 120, 121, 119, 116, 97, 101, 99], [70, 102, 77, 109, 80, 81, 83, 68], [124], [38], [43, 45], [42, 47, 37]]
/-- the constants' texts, and the tables' words that a change of state may not carry by itself -/
def Sr (adK : Nat → Nat) (U : State) : Prop :=
  (vk_R "FontList$Family" 24 "nbxywtaec" (adK 0) U ∧ vk_R "FontList$Reader" 116 "nbxywtaec" (adK 0) U ∧ vk_R "FontList" 184 "FfMmPQSD" (adK 1) U ∧ vk_R "FontList$Reader" 62 "FfMmPQSD" (adK 1) U ∧ vk_R "FontList$Reader" 80 "|" (adK 2) U ∧ vk_R "FontList$Reader" 82 "&" (adK 3) U ∧ vk_R "FontList$Reader" 84 "+-" (adK 4) U ∧ vk_R "FontList$Reader" 86 "*/%" (adK 5) U) ∧
  (va_Nw (.methodLinkNest "FontList" 9 yX0_init "FontList") U ∧ va_Nw (.methodLinkNest "FontList$Books" 11 yX5_init "FontList") U ∧ va_Nw (.methodLinkNest "FontList$Books" 20 yX1_init "FontList") U ∧ va_Nw (.methodLinkNest "FontList$Books" 27 yX4_init "FontList") U ∧ va_Nw (.methodLinkNest "FontList" 18 yX8_init "FontList") U ∧ va_Nw (.methodLinkNest "FontList" 31 yX6_init "FontList") U ∧ va_Nw (.methodLinkNest "FontList$Reader" 17 yX2_init "FontList") U ∧ va_Nw (.methodLinkNest "FontList" 73 yX2_init "FontList") U) ∧ va_AO "FontList$Custom" U
def Sx (adK adV : Nat → Nat) (A : Nat → Prop) (U : State) (H : Heap) : Prop := vk_S 6 sxL sxB adK adV A U H ∧ Sr adK U
/-- name, code, locals, what it returns, its room -/
abbrev MI : Type := MethodName × ByteArray × Nat × Option FieldType × Room
def rmD (d mc ms : Nat) : Room := { frames := d, cells := mc, slots := ms, locals := 64 * d }
def lvl (ad : Nat → Nat) (ls : List (Option AV)) : List (Nat × Value) := (ls.mapIdx fun i o => o.map fun v => (i, cv ad v)).filterMap id
def Wd (dC : Nat → ClassId) (dI : Nat → Nat → Nat) (cy : Nat → ClassId) (ad : Nat → Nat) (A : Nat → Prop) (sh : SH) (g z : GG) (r : RR) (s : State) (H : Heap) : Prop :=
  va_P (dC, dI) vwCl (wd cy ad sh g z r) H ∧ va_D A (wd cy ad sh g z r) ∧ va_K (dC, dI) vwCl (tyL cy) s
abbrev PQ : Type := Option AV → SH → GG → GG → RR → Prop
def QC (ad : Nat → Nat) (n0 : Nat) (dC : Nat → ClassId) (dI : Nat → Nat → Nat) (cy : Nat → ClassId) (A : Nat → Prop) (Q : PQ) : Array Value → State → Outcome → State → Prop := fun _ st o t =>
  (∃ (v : Option AV) (sh' : SH) (ad' : Nat → Nat) (g' z' : GG) (r' : RR), o = .returned (v.map (cv ad')) ∧ Q v sh' g' z' r' ∧ n0 ≤ sh'.length ∧ (∀ a, okr n0 a → ad' a = ad a) ∧ okh sh'.length g' z' r' ∧ (∀ x, v = some x → okv sh'.length x) ∧ Wd dC dI cy ad' A sh' g' z' r' t t.heap) ∧ va_F A st t
def Cx (M : MI) (p : Program) (s : State) (m : MethodId) (args : Array Value) (meth : Method) (c : Code) (adK adV : Nat → Nat) (A : Nat → Prop) : Prop :=
  p.tables.exec = Jvm.exec ∧ c.code = M.2.1 ∧ c.maxLocals = M.2.2.1 ∧ meth.sig.returnType = M.2.2.2.1 ∧ meth.locks = false ∧ s.vm.findClass M.1.cls = some m.cls ∧ meth.name = M.1.name ∧ (∀ w ∈ TB, w.before args s = true) ∧ Sx adK adV A s s.heap ∧ ∀ q, s.heap.size ≤ q → A q
def RJ (M : MI) (mc ms n0 : Nat) (Q : PQ) (ce sl : Nat) (sh : SH) (pc : Nat) (ls : List (Option AV)) (st : List AV) (g z : GG) (r : RR) : Prop :=
  ∀ (p : Program) (l : Launch) (e : Env) (s : State) (m : MethodId) (args : Array Value) (below : List Frame) (meth : Method) (c : Code) (dC : Nat → ClassId) (dI : Nat → Nat → Nat) (cy : Nat → ClassId) (ad0 ad adK adV : Nat → Nat) (A : Nat → Prop) (H : Heap) (locs : List Loc) (Ls : Array Slot),
    Cx M p s m args meth c adK adV A → n0 ≤ sh.length → (∀ a, okr n0 a → ad a = ad0 a) → (∀ i, i < 6 → ad (100000 + i) = adK i) → Wd dC dI cy ad A sh g z r s H → va_S A s.heap H locs → okh sh.length g z r → (∀ v, some v ∈ ls → okv sh.length v) → (∀ v ∈ st, okv sh.length v) → lv_has Ls M.2.2.1 (lvl ad ls) →
    W p l e M.2.2.2.2 s m args below meth c H locs ce sl (MQ below (QC ad0 n0 dC dI cy A Q) args s mc ms A) (F0 m pc Ls (st.map (cv ad)))
/-! numbers -/
theorem w32_in (x : Int) : inI (w32 x) := by unfold inI w32; omega
theorem w64_in (x : Int) : inL (w64 x) := by unfold inL w64; omega
theorem w32_id {x : Int} (h : inI x) : w32 x = x := by unfold inI at h; unfold w32; omega
theorem w64_id {x : Int} (h : inL x) : w64 x = x := by unfold inL at h; unfold w64; omega
theorem t32 {x : Int} (h : inI x) : (i32 x).toInt = x := by
  unfold inI at h
  rw [Int32.toInt_ofInt, Int.bmod_eq_of_le_mul_two (by simp [Int32.size]; omega) (by simp [Int32.size]; omega)]
theorem t64 {x : Int} (h : inL x) : (i64 x).toInt = x := by
  unfold inL at h
  rw [Int64.toInt_ofInt, Int.bmod_eq_of_le_mul_two (by simp [Int64.size]; omega) (by simp [Int64.size]; omega)]
theorem in32 (x : Int32) : inI x.toInt := ⟨Int32.le_toInt x, Int32.toInt_lt x⟩
theorem in64 (x : Int64) : inL x.toInt := ⟨Int64.le_toInt x, Int64.toInt_lt x⟩
theorem o32 (x : Int32) : i32 x.toInt = x := Int32.ofInt_toInt x
theorem o64 (x : Int64) : i64 x.toInt = x := Int64.ofInt_toInt x
theorem e32 {x : Int32} {y : Int} (h : x.toInt = y) : i32 y = x := by rw [← h]; exact o32 x
theorem e64 {x : Int64} {y : Int} (h : x.toInt = y) : i64 y = x := by rw [← h]; exact o64 x
theorem wb32 (x : Int) : Int.bmod x (2 ^ 32) = w32 x := by unfold w32; rw [Int.bmod_def]; omega
theorem wb64 (x : Int) : Int.bmod x (2 ^ 64) = w64 x := by unfold w64; rw [Int.bmod_def]; omega
theorem i32_w (x : Int) : i32 (w32 x) = i32 x := e32 (by rw [Int32.toInt_ofInt]; exact wb32 x)
theorem i64_w (x : Int) : i64 (w64 x) = i64 x := e64 (by rw [Int64.toInt_ofInt]; exact wb64 x)
theorem i32_lt {a b : Int} (ha : inI a) (hb : inI b) : i32 a < i32 b ↔ a < b := by rw [Int32.lt_iff_toInt_lt, t32 ha, t32 hb]
theorem i32_le {a b : Int} (ha : inI a) (hb : inI b) : i32 a ≤ i32 b ↔ a ≤ b := by rw [Int32.le_iff_toInt_le, t32 ha, t32 hb]
theorem i32_eq {a b : Int} (ha : inI a) (hb : inI b) : i32 a = i32 b ↔ a = b := by rw [← Int32.toInt_inj, t32 ha, t32 hb]
theorem inI0 : inI 0 := by unfold inI; omega
theorem i32_clamp {a : Int} (ha : inI a) : (i32 a).toNatClampNeg = a.toNat := by rw [Int32.toNatClampNeg, t32 ha]
theorem vp_inI {a : Int} {n : Nat} (ha : inI a) (h0 : 0 ≤ a) (h1 : a < n) : vp_in (i32 a) n := by
  unfold vp_in
  rw [i32_clamp ha, show (0 : Int32) = i32 0 from rfl, i32_lt ha inI0]
  omega
/-! the world -/
theorem okr.mono {n n' a : Nat} (h : n ≤ n') (q : okr n a) : okr n' a := by unfold okr at *; omega
theorem okv.mono {n n' : Nat} {v : AV} (h : n ≤ n') (q : okv n v) : okv n' v := by
  match v with
  | .inl _ => exact q
  | .inr (.inl _) => exact q
  | .inr (.inr _) => exact fun a ha => (q a ha).mono h
theorem cv_eq {n : Nat} {v : AV} {ad ad' : Nat → Nat} (hv : okv n v) (h : ∀ a, okr n a → ad' a = ad a) : cv ad' v = cv ad v := by
  match v with
  | .inl _ => rfl
  | .inr (.inl _) => rfl
  | .inr (.inr none) => rfl
  | .inr (.inr (some a)) => simp [cv, va_rf, h a (hv a rfl)]
theorem wd_get {cy : Nat → ClassId} {ad : Nat → Nat} {sh : SH} {g z : GG} {r : RR} {c : Nat} {q : Nat × Nat} (h : sh[c]? = some q) : (wd cy ad sh g z r)[c]? = some (ad c, ce cy ad g z r c q) := by
  simp [wd, List.getElem?_mapIdx, h]
theorem wd_len {cy : Nat → ClassId} {ad : Nat → Nat} {sh : SH} {g z : GG} {r : RR} : (wd cy ad sh g z r).length = sh.length := by simp [wd]
theorem wd_set {cy : Nat → ClassId} {ad : Nat → Nat} {sh : SH} {g z g' z' : GG} {r r' : RR} {c : Nat} {q : Nat × Nat} (h : sh[c]? = some q) {x : va_E} (hx : x = ce cy ad g' z' r' c q) (ho : ∀ c', c' ≠ c → g' c' = g c' ∧ z' c' = z c' ∧ r' c' = r c') : (wd cy ad sh g z r).set c (ad c, x) = wd cy ad sh g' z' r' := by
  subst hx
  apply List.ext_getElem?
  intro j
  rw [List.getElem?_set, wd_len]
  by_cases hj : c = j
  · subst hj
    have hl : c < sh.length := (List.getElem?_eq_some_iff.mp h).1
    rw [if_pos rfl, if_pos hl]
    simp only [wd, List.getElem?_mapIdx, h, Option.map_some]
  · rw [if_neg hj]
    obtain ⟨e1, e2, e3⟩ := ho j (fun e => hj e.symm)
    simp only [wd, List.getElem?_mapIdx]
    cases sh[j]? with
    | none => rfl
    | some q' => simp [ce, fv, e1, e2, e3]
theorem up2_ne {f : GG} {c k : Nat} {v : Int} {c' : Nat} (h : c' ≠ c) : up2 f c k v c' = f c' := by funext k'; simp [up2, h]
theorem upR_ne {f : RR} {c k : Nat} {v : Option Nat} {c' : Nat} (h : c' ≠ c) : upR f c k v c' = f c' := by funext k'; simp [upR, h]
theorem up2_in {f : GG} (hf : ∀ c k, inI (f c k)) {c k : Nat} {v : Int} (hv : inI v) : ∀ c' k', inI (up2 f c k v c' k') := by
  intro c' k'
  unfold up2
  split
  · exact hv
  · exact hf c' k'
theorem up2_inL {f : GG} (hf : ∀ c k, inL (f c k)) {c k : Nat} {v : Int} (hv : inL v) : ∀ c' k', inL (up2 f c k v c' k') := by
  intro c' k'
  unfold up2
  split
  · exact hv
  · exact hf c' k'
theorem lvl_mem {ad : Nat → Nat} {ls : List (Option AV)} {q : Nat × Value} : q ∈ lvl ad ls ↔ ∃ i v, ls[i]? = some (some v) ∧ q = (i, cv ad v) := by
  simp only [lvl, List.mem_filterMap, id_eq, List.mem_mapIdx]
  constructor
  · rintro ⟨o, ⟨i, hi, rfl⟩, h⟩
    cases hv : ls[i] with
    | none => simp [hv] at h
    | some v => exact ⟨i, v, by rw [List.getElem?_eq_getElem hi, hv], by simpa [hv] using h.symm⟩
  · rintro ⟨i, v, hi, rfl⟩
    obtain ⟨h1, h2⟩ := List.getElem?_eq_some_iff.mp hi
    exact ⟨some (i, cv ad v), ⟨i, h1, by simp [h2]⟩, rfl⟩
theorem lvl_at {ad : Nat → Nat} {Ls : Array Slot} {nL : Nat} {ls : List (Option AV)} (h : lv_has Ls nL (lvl ad ls)) {i : Nat} {v : AV} (hi : ls[i]? = some (some v)) : Ls[i]? = some (.val (cv ad v)) := h.2.2 (i, cv ad v) (lvl_mem.mpr ⟨i, v, hi, rfl⟩)
theorem lvl_ad {n : Nat} {ad ad' : Nat → Nat} {ls : List (Option AV)} (hl : ∀ v, some v ∈ ls → okv n v) (h : ∀ a, okr n a → ad' a = ad a) : lvl ad' ls = lvl ad ls := by
  unfold lvl
  congr 1
  apply List.ext_getElem?
  intro i
  simp only [List.getElem?_mapIdx]
  cases hi : ls[i]? with
  | none => rfl
  | some o =>
    cases o with
    | none => rfl
    | some v => simp [cv_eq (hl v (List.mem_of_getElem? hi)) h]
/-- the place before holds no long -/
def nlg (ls : List (Option AV)) (i : Nat) : Bool := match i with
  | 0 => true
  | j + 1 => match ls[j]? with
    | some (some (.inr (.inl _))) => false
    | _ => true
theorem cv_cat {ad : Nat → Nat} {v : AV} (h : (cv ad v).category = 2) : ∃ x, v = vL x := by
  match v with
  | .inl _ => simp [cv, Value.category] at h
  | .inr (.inl x) => exact ⟨x, rfl⟩
  | .inr (.inr none) => simp [cv, va_rf, Value.category] at h
  | .inr (.inr (some _)) => simp [cv, va_rf, Value.category] at h
theorem lvl_st1 {ad : Nat → Nat} {Ls : Array Slot} {nL i : Nat} {ls : List (Option AV)} {v : AV} (hn : nlg ls i = true) (h : lv_has Ls nL ((i, cv ad v) :: (lvl ad ls).filter (fun q => !(q.1 == i) && !(q.1 + 1 == i && q.2.category == 2)))) : lv_has Ls nL (lvl ad (ls.set i (some v))) := by
  refine ⟨h.1, h.2.1, fun q hq => h.2.2 q ?_⟩
  obtain ⟨j, u, hj, rfl⟩ := lvl_mem.mp hq
  rw [List.getElem?_set] at hj
  by_cases hij : i = j
  · subst hij
    simp at hj
    obtain ⟨-, rfl⟩ := hj
    exact List.mem_cons_self
  · rw [if_neg hij] at hj
    refine List.mem_cons_of_mem _ (List.mem_filter.mpr ⟨lvl_mem.mpr ⟨j, u, hj, rfl⟩, ?_⟩)
    have h1 : ¬ (j = i) := fun e => hij e.symm
    simp only [Bool.and_eq_true, Bool.not_eq_true', beq_eq_false_iff_ne, ne_eq, h1, not_false_eq_true, true_and]
    by_cases h2 : j + 1 = i
    · subst h2
      simp only [beq_self_eq_true, Bool.true_and, beq_eq_false_iff_ne, ne_eq]
      intro hc
      obtain ⟨x, rfl⟩ := cv_cat hc
      simp [nlg, hj] at hn
    · simp [h2]
theorem lvl_st2 {ad : Nat → Nat} {Ls : Array Slot} {nL i : Nat} {ls : List (Option AV)} {v : AV} (hn : nlg ls i = true) (h : lv_has Ls nL ((i, cv ad v) :: (lvl ad ls).filter (fun q => !(q.1 == i) && (!(q.1 == i + 1) && !(q.1 + 1 == i && q.2.category == 2))))) : lv_has Ls nL (lvl ad ((ls.set i (some v)).set (i + 1) none)) := by
  refine ⟨h.1, h.2.1, fun q hq => h.2.2 q ?_⟩
  obtain ⟨j, u, hj, rfl⟩ := lvl_mem.mp hq
  rw [List.getElem?_set] at hj
  by_cases h3 : i + 1 = j
  · rw [if_pos h3] at hj
    split at hj <;> simp at hj
  rw [if_neg h3, List.getElem?_set] at hj
  by_cases hij : i = j
  · subst hij
    simp at hj
    obtain ⟨-, rfl⟩ := hj
    exact List.mem_cons_self
  · rw [if_neg hij] at hj
    refine List.mem_cons_of_mem _ (List.mem_filter.mpr ⟨lvl_mem.mpr ⟨j, u, hj, rfl⟩, ?_⟩)
    have h1 : ¬ (j = i) := fun e => hij e.symm
    have h4 : ¬ (j = i + 1) := fun e => h3 e.symm
    simp only [Bool.and_eq_true, Bool.not_eq_true', beq_eq_false_iff_ne, ne_eq, h1, h4, not_false_eq_true, true_and]
    by_cases h2 : j + 1 = i
    · subst h2
      simp only [beq_self_eq_true, Bool.true_and, beq_eq_false_iff_ne, ne_eq]
      intro hc
      obtain ⟨x, rfl⟩ := cv_cat hc
      simp [nlg, hj] at hn
    · simp [h2]
theorem set_ok {n : Nat} {ls : List (Option AV)} {i : Nat} {o : Option AV} (h : ∀ v, some v ∈ ls → okv n v) (ho : ∀ v, o = some v → okv n v) : ∀ v, some v ∈ ls.set i o → okv n v := by
  intro v hv
  rcases List.mem_or_eq_of_mem_set hv with h1 | h1
  · exact h v h1
  · exact ho v h1.symm
end
section
section RULES
theorem okc {n : Nat} {v : AV} {st : List AV} (hv : okv n v) (h : ∀ x ∈ st, okv n x) : ∀ x ∈ v :: st, okv n x := List.forall_mem_cons.mpr ⟨hv, h⟩
theorem okt {n : Nat} {v : AV} {st : List AV} (h : ∀ x ∈ v :: st, okv n x) : ∀ x ∈ st, okv n x := (List.forall_mem_cons.mp h).2
theorem okx {n : Nat} {v : AV} {st : List AV} (h : ∀ x ∈ v :: st, okv n x) : okv n v := (List.forall_mem_cons.mp h).1
theorem lv_nn (h : ∀ x : Nat, x = x) : True := trivial
variable {M : MI} {mc ms n0 : Nat} {Q : PQ} {ce sl : Nat} {sh : SH} {pc : Nat} {ls : List (Option AV)} {st : List AV} {g z : GG} {r : RR}
theorem R_iload_n {k : Fin 4} {x : Int} (hd : decode M.2.1 pc = .ok (.iload_n k, 1)) (h0 : ls[(k : Nat)]? = some (some (vI x))) (kk : RJ M mc ms n0 Q ce sl sh (pc + 1) ls (vI x :: st) g z r) : RJ M mc ms n0 Q ce sl sh pc ls st g z r := by
  intro p l e s m args below meth c dC dI cy ad0 ad adK adV A H locs Ls hC hn hd0 hst hW hS hO hl hs hL
  have hx := hC.1
  have hb := hC.2.1
  exact lv_iload_n hx hb hd rfl (lvl_at hL h0) (kk p l e s m args below meth c dC dI cy ad0 ad adK adV A H locs Ls hC hn hd0 hst hW hS hO hl (okc (hl _ (List.mem_of_getElem? h0)) hs) hL)
theorem R_iload {k : Nat} {x : Int} (hd : decode M.2.1 pc = .ok (.iload k, 2)) (h0 : ls[k]? = some (some (vI x))) (kk : RJ M mc ms n0 Q ce sl sh (pc + 2) ls (vI x :: st) g z r) : RJ M mc ms n0 Q ce sl sh pc ls st g z r := by
  intro p l e s m args below meth c dC dI cy ad0 ad adK adV A H locs Ls hC hn hd0 hst hW hS hO hl hs hL
  have hx := hC.1
  have hb := hC.2.1
  exact lv_iload hx hb hd (lvl_at hL h0) (kk p l e s m args below meth c dC dI cy ad0 ad adK adV A H locs Ls hC hn hd0 hst hW hS hO hl (okc (hl _ (List.mem_of_getElem? h0)) hs) hL)
theorem R_lload_n {k : Fin 4} {x : Int} (hd : decode M.2.1 pc = .ok (.lload_n k, 1)) (h0 : ls[(k : Nat)]? = some (some (vL x))) (kk : RJ M mc ms n0 Q ce sl sh (pc + 1) ls (vL x :: st) g z r) : RJ M mc ms n0 Q ce sl sh pc ls st g z r := by
  intro p l e s m args below meth c dC dI cy ad0 ad adK adV A H locs Ls hC hn hd0 hst hW hS hO hl hs hL
  have hx := hC.1
  have hb := hC.2.1
  exact lv_lload_n hx hb hd rfl (lvl_at hL h0) (kk p l e s m args below meth c dC dI cy ad0 ad adK adV A H locs Ls hC hn hd0 hst hW hS hO hl (okc (hl _ (List.mem_of_getElem? h0)) hs) hL)
theorem R_lload {k : Nat} {x : Int} (hd : decode M.2.1 pc = .ok (.lload k, 2)) (h0 : ls[k]? = some (some (vL x))) (kk : RJ M mc ms n0 Q ce sl sh (pc + 2) ls (vL x :: st) g z r) : RJ M mc ms n0 Q ce sl sh pc ls st g z r := by
  intro p l e s m args below meth c dC dI cy ad0 ad adK adV A H locs Ls hC hn hd0 hst hW hS hO hl hs hL
  have hx := hC.1
  have hb := hC.2.1
  exact lv_lload hx hb hd (lvl_at hL h0) (kk p l e s m args below meth c dC dI cy ad0 ad adK adV A H locs Ls hC hn hd0 hst hW hS hO hl (okc (hl _ (List.mem_of_getElem? h0)) hs) hL)
theorem R_aload_n {k : Fin 4} {x : Option Nat} (hd : decode M.2.1 pc = .ok (.aload_n k, 1)) (h0 : ls[(k : Nat)]? = some (some (vR x))) (kk : RJ M mc ms n0 Q ce sl sh (pc + 1) ls (vR x :: st) g z r) : RJ M mc ms n0 Q ce sl sh pc ls st g z r := by
  intro p l e s m args below meth c dC dI cy ad0 ad adK adV A H locs Ls hC hn hd0 hst hW hS hO hl hs hL
  have hx := hC.1
  have hb := hC.2.1
  cases x with
  | none => exact lv_aload_nN hx hb hd rfl (lvl_at hL h0) (kk p l e s m args below meth c dC dI cy ad0 ad adK adV A H locs Ls hC hn hd0 hst hW hS hO hl (okc (hl _ (List.mem_of_getElem? h0)) hs) hL)
  | some a => exact lv_aload_n hx hb hd rfl (lvl_at hL h0) (kk p l e s m args below meth c dC dI cy ad0 ad adK adV A H locs Ls hC hn hd0 hst hW hS hO hl (okc (hl _ (List.mem_of_getElem? h0)) hs) hL)
theorem R_aload {k : Nat} {x : Option Nat} (hd : decode M.2.1 pc = .ok (.aload k, 2)) (h0 : ls[k]? = some (some (vR x))) (kk : RJ M mc ms n0 Q ce sl sh (pc + 2) ls (vR x :: st) g z r) : RJ M mc ms n0 Q ce sl sh pc ls st g z r := by
  intro p l e s m args below meth c dC dI cy ad0 ad adK adV A H locs Ls hC hn hd0 hst hW hS hO hl hs hL
  have hx := hC.1
  have hb := hC.2.1
  cases x with
  | none => exact lv_aloadN hx hb hd (lvl_at hL h0) (kk p l e s m args below meth c dC dI cy ad0 ad adK adV A H locs Ls hC hn hd0 hst hW hS hO hl (okc (hl _ (List.mem_of_getElem? h0)) hs) hL)
  | some a => exact lv_aload hx hb hd (lvl_at hL h0) (kk p l e s m args below meth c dC dI cy ad0 ad adK adV A H locs Ls hC hn hd0 hst hW hS hO hl (okc (hl _ (List.mem_of_getElem? h0)) hs) hL)
theorem R_istore_n {k : Fin 4} {x : Int} (hd : decode M.2.1 pc = .ok (.istore_n k, 1)) (h0 : (k : Nat) < M.2.2.1) (h1 : nlg ls (k : Nat) = true) (kk : RJ M mc ms n0 Q ce sl sh (pc + 1) (ls.set (k : Nat) (some (vI x))) st g z r) : RJ M mc ms n0 Q ce sl sh pc ls (vI x :: st) g z r := by
  intro p l e s m args below meth c dC dI cy ad0 ad adK adV A H locs Ls hC hn hd0 hst hW hS hO hl hs hL
  have hx := hC.1
  have hb := hC.2.1
  exact lv_istore_n hx hb hd rfl hL h0 rfl (fun Ls' hL' => kk p l e s m args below meth c dC dI cy ad0 ad adK adV A H locs Ls' hC hn hd0 hst hW hS hO (set_ok hl (fun v hv => by cases hv; exact okx hs)) (okt hs) (lvl_st1 (v := vI x) h1 hL'))
theorem R_istore {k : Nat} {x : Int} (hd : decode M.2.1 pc = .ok (.istore k, 2)) (h0 : k < M.2.2.1) (h1 : nlg ls k = true) (kk : RJ M mc ms n0 Q ce sl sh (pc + 2) (ls.set k (some (vI x))) st g z r) : RJ M mc ms n0 Q ce sl sh pc ls (vI x :: st) g z r := by
  intro p l e s m args below meth c dC dI cy ad0 ad adK adV A H locs Ls hC hn hd0 hst hW hS hO hl hs hL
  have hx := hC.1
  have hb := hC.2.1
  exact lv_istore hx hb hd hL h0 rfl (fun Ls' hL' => kk p l e s m args below meth c dC dI cy ad0 ad adK adV A H locs Ls' hC hn hd0 hst hW hS hO (set_ok hl (fun v hv => by cases hv; exact okx hs)) (okt hs) (lvl_st1 (v := vI x) h1 hL'))
theorem R_lstore_n {k : Fin 4} {x : Int} (hd : decode M.2.1 pc = .ok (.lstore_n k, 1)) (h0 : (k : Nat) + 1 < M.2.2.1) (h1 : nlg ls (k : Nat) = true) (kk : RJ M mc ms n0 Q ce sl sh (pc + 1) ((ls.set (k : Nat) (some (vL x))).set ((k : Nat) + 1) none) st g z r) : RJ M mc ms n0 Q ce sl sh pc ls (vL x :: st) g z r := by
  intro p l e s m args below meth c dC dI cy ad0 ad adK adV A H locs Ls hC hn hd0 hst hW hS hO hl hs hL
  have hx := hC.1
  have hb := hC.2.1
  exact lv_lstore_n hx hb hd rfl hL h0 rfl (fun Ls' hL' => kk p l e s m args below meth c dC dI cy ad0 ad adK adV A H locs Ls' hC hn hd0 hst hW hS hO (set_ok (set_ok hl (fun v hv => by cases hv; exact okx hs)) (fun v hv => by cases hv)) (okt hs) (lvl_st2 (v := vL x) h1 hL'))
theorem R_lstore {k : Nat} {x : Int} (hd : decode M.2.1 pc = .ok (.lstore k, 2)) (h0 : k + 1 < M.2.2.1) (h1 : nlg ls k = true) (kk : RJ M mc ms n0 Q ce sl sh (pc + 2) ((ls.set k (some (vL x))).set (k + 1) none) st g z r) : RJ M mc ms n0 Q ce sl sh pc ls (vL x :: st) g z r := by
  intro p l e s m args below meth c dC dI cy ad0 ad adK adV A H locs Ls hC hn hd0 hst hW hS hO hl hs hL
  have hx := hC.1
  have hb := hC.2.1
  exact lv_lstore hx hb hd hL h0 rfl (fun Ls' hL' => kk p l e s m args below meth c dC dI cy ad0 ad adK adV A H locs Ls' hC hn hd0 hst hW hS hO (set_ok (set_ok hl (fun v hv => by cases hv; exact okx hs)) (fun v hv => by cases hv)) (okt hs) (lvl_st2 (v := vL x) h1 hL'))
theorem R_astore_n {k : Fin 4} {x : Option Nat} (hd : decode M.2.1 pc = .ok (.astore_n k, 1)) (h0 : (k : Nat) < M.2.2.1) (h1 : nlg ls (k : Nat) = true) (kk : RJ M mc ms n0 Q ce sl sh (pc + 1) (ls.set (k : Nat) (some (vR x))) st g z r) : RJ M mc ms n0 Q ce sl sh pc ls (vR x :: st) g z r := by
  intro p l e s m args below meth c dC dI cy ad0 ad adK adV A H locs Ls hC hn hd0 hst hW hS hO hl hs hL
  have hx := hC.1
  have hb := hC.2.1
  cases x with
  | none => exact lv_astore_nN hx hb hd rfl hL h0 rfl (fun Ls' hL' => kk p l e s m args below meth c dC dI cy ad0 ad adK adV A H locs Ls' hC hn hd0 hst hW hS hO (set_ok hl (fun v hv => by cases hv; exact okx hs)) (okt hs) (lvl_st1 (v := vR none) h1 hL'))
  | some a => exact lv_astore_n hx hb hd rfl hL h0 rfl (fun Ls' hL' => kk p l e s m args below meth c dC dI cy ad0 ad adK adV A H locs Ls' hC hn hd0 hst hW hS hO (set_ok hl (fun v hv => by cases hv; exact okx hs)) (okt hs) (lvl_st1 (v := vR (some a)) h1 hL'))
theorem R_astore {k : Nat} {x : Option Nat} (hd : decode M.2.1 pc = .ok (.astore k, 2)) (h0 : k < M.2.2.1) (h1 : nlg ls k = true) (kk : RJ M mc ms n0 Q ce sl sh (pc + 2) (ls.set k (some (vR x))) st g z r) : RJ M mc ms n0 Q ce sl sh pc ls (vR x :: st) g z r := by
  intro p l e s m args below meth c dC dI cy ad0 ad adK adV A H locs Ls hC hn hd0 hst hW hS hO hl hs hL
  have hx := hC.1
  have hb := hC.2.1
  cases x with
  | none => exact lv_astoreN hx hb hd hL h0 rfl (fun Ls' hL' => kk p l e s m args below meth c dC dI cy ad0 ad adK adV A H locs Ls' hC hn hd0 hst hW hS hO (set_ok hl (fun v hv => by cases hv; exact okx hs)) (okt hs) (lvl_st1 (v := vR none) h1 hL'))
  | some a => exact lv_astore hx hb hd hL h0 rfl (fun Ls' hL' => kk p l e s m args below meth c dC dI cy ad0 ad adK adV A H locs Ls' hC hn hd0 hst hW hS hO (set_ok hl (fun v hv => by cases hv; exact okx hs)) (okt hs) (lvl_st1 (v := vR (some a)) h1 hL'))
theorem R_iconst {n : Int} (hd : decode M.2.1 pc = .ok (.iconst n, 1)) (h0 : decide (-32768 ≤ n ∧ n < 32768) = true) (h1 : Int32.ofInt n = i32 n) (kk : RJ M mc ms n0 Q ce sl sh (pc + 1) ls (vI n :: st) g z r) : RJ M mc ms n0 Q ce sl sh pc ls st g z r := by
  intro p l e s m args below meth c dC dI cy ad0 ad adK adV A H locs Ls hC hn hd0 hst hW hS hO hl hs hL
  have hx := hC.1
  have hb := hC.2.1
  have h0 := of_decide_eq_true h0
  exact lv_iconst hx hb hd h1 (kk p l e s m args below meth c dC dI cy ad0 ad adK adV A H locs Ls hC hn hd0 hst hW hS hO hl (okc (v := vI n) ⟨by omega, by omega⟩ hs) hL)
theorem R_bipush {n : Int} (hd : decode M.2.1 pc = .ok (.bipush n, 2)) (h0 : decide (-32768 ≤ n ∧ n < 32768) = true) (h1 : (Int8.ofInt n).toInt32 = i32 n) (kk : RJ M mc ms n0 Q ce sl sh (pc + 2) ls (vI n :: st) g z r) : RJ M mc ms n0 Q ce sl sh pc ls st g z r := by
  intro p l e s m args below meth c dC dI cy ad0 ad adK adV A H locs Ls hC hn hd0 hst hW hS hO hl hs hL
  have hx := hC.1
  have hb := hC.2.1
  have h0 := of_decide_eq_true h0
  exact lv_bipush hx hb hd h1 (kk p l e s m args below meth c dC dI cy ad0 ad adK adV A H locs Ls hC hn hd0 hst hW hS hO hl (okc (v := vI n) ⟨by omega, by omega⟩ hs) hL)
theorem R_sipush {n : Int} (hd : decode M.2.1 pc = .ok (.sipush n, 3)) (h0 : decide (-32768 ≤ n ∧ n < 32768) = true) (h1 : (Int16.ofInt n).toInt32 = i32 n) (kk : RJ M mc ms n0 Q ce sl sh (pc + 3) ls (vI n :: st) g z r) : RJ M mc ms n0 Q ce sl sh pc ls st g z r := by
  intro p l e s m args below meth c dC dI cy ad0 ad adK adV A H locs Ls hC hn hd0 hst hW hS hO hl hs hL
  have hx := hC.1
  have hb := hC.2.1
  have h0 := of_decide_eq_true h0
  exact lv_sipush hx hb hd h1 (kk p l e s m args below meth c dC dI cy ad0 ad adK adV A H locs Ls hC hn hd0 hst hW hS hO hl (okc (v := vI n) ⟨by omega, by omega⟩ hs) hL)
theorem R_lconst {n : Fin 2} (hd : decode M.2.1 pc = .ok (.lconst n, 1)) (kk : RJ M mc ms n0 Q ce sl sh (pc + 1) ls (vL ((n : Nat) : Int) :: st) g z r) : RJ M mc ms n0 Q ce sl sh pc ls st g z r := by
  intro p l e s m args below meth c dC dI cy ad0 ad adK adV A H locs Ls hC hn hd0 hst hW hS hO hl hs hL
  have hx := hC.1
  have hb := hC.2.1
  exact lv_lconst hx hb hd (v := i64 ((n : Nat) : Int)) (by match n with | 0 => rfl | 1 => rfl) (kk p l e s m args below meth c dC dI cy ad0 ad adK adV A H locs Ls hC hn hd0 hst hW hS hO hl (okc (v := vL ((n : Nat) : Int)) ⟨by omega, by omega⟩ hs) hL)
theorem R_ldc {index : Nat} {v : Int} (hk : Cond.constant M.1.cls index (i32 v) ∈ TB) (hd : decode M.2.1 pc = .ok (.ldc index, 2)) (h0 : decide (-2147483648 ≤ v ∧ v < 2147483648) = true) (kk : RJ M mc ms n0 Q ce sl sh (pc + 2) ls (vI v :: st) g z r) : RJ M mc ms n0 Q ce sl sh pc ls st g z r := by
  intro p l e s m args below meth c dC dI cy ad0 ad adK adV A H locs Ls hC hn hd0 hst hW hS hO hl hs hL
  have hx := hC.1
  have hb := hC.2.1
  exact lv_ldc hx hb hC.2.2.2.2.2.1 (hC.2.2.2.2.2.2.2.1 _ hk) hd (kk p l e s m args below meth c dC dI cy ad0 ad adK adV A H locs Ls hC hn hd0 hst hW hS hO hl (okc (v := vI v) (show inI v by have h1 := of_decide_eq_true h0; exact h1) hs) hL)
theorem R_ldc_w {index : Nat} {v : Int} (hk : Cond.constant M.1.cls index (i32 v) ∈ TB) (hd : decode M.2.1 pc = .ok (.ldc_w index, 3)) (h0 : decide (-2147483648 ≤ v ∧ v < 2147483648) = true) (kk : RJ M mc ms n0 Q ce sl sh (pc + 3) ls (vI v :: st) g z r) : RJ M mc ms n0 Q ce sl sh pc ls st g z r := by
  intro p l e s m args below meth c dC dI cy ad0 ad adK adV A H locs Ls hC hn hd0 hst hW hS hO hl hs hL
  have hx := hC.1
  have hb := hC.2.1
  exact lv_ldcw hx hb hC.2.2.2.2.2.1 (hC.2.2.2.2.2.2.2.1 _ hk) hd (kk p l e s m args below meth c dC dI cy ad0 ad adK adV A H locs Ls hC hn hd0 hst hW hS hO hl (okc (v := vI v) (show inI v by have h1 := of_decide_eq_true h0; exact h1) hs) hL)
theorem R_ldc2_w {index : Nat} {v : Int} (hk : Cond.constantLong M.1.cls index (i64 v) ∈ TB) (hd : decode M.2.1 pc = .ok (.ldc2_w index, 3)) (h0 : decide (-9223372036854775808 ≤ v ∧ v < 9223372036854775808) = true) (kk : RJ M mc ms n0 Q ce sl sh (pc + 3) ls (vL v :: st) g z r) : RJ M mc ms n0 Q ce sl sh pc ls st g z r := by
  intro p l e s m args below meth c dC dI cy ad0 ad adK adV A H locs Ls hC hn hd0 hst hW hS hO hl hs hL
  have hx := hC.1
  have hb := hC.2.1
  exact lv_ldc2 hx hb hC.2.2.2.2.2.1 (hC.2.2.2.2.2.2.2.1 _ hk) hd (kk p l e s m args below meth c dC dI cy ad0 ad adK adV A H locs Ls hC hn hd0 hst hW hS hO hl (okc (v := vL v) (show inL v by have h1 := of_decide_eq_true h0; exact h1) hs) hL)
theorem R_aconst_null (hd : decode M.2.1 pc = .ok (.aconst_null, 1)) (kk : RJ M mc ms n0 Q ce sl sh (pc + 1) ls (vR none :: st) g z r) : RJ M mc ms n0 Q ce sl sh pc ls st g z r := by
  intro p l e s m args below meth c dC dI cy ad0 ad adK adV A H locs Ls hC hn hd0 hst hW hS hO hl hs hL
  have hx := hC.1
  have hb := hC.2.1
  exact lv_null hx hb hd (kk p l e s m args below meth c dC dI cy ad0 ad adK adV A H locs Ls hC hn hd0 hst hW hS hO hl (okc (v := vR none) (fun a h => by cases h) hs) hL)
theorem R_iadd {a b : Int} (hd : decode M.2.1 pc = .ok (.iadd, 1)) (kk : RJ M mc ms n0 Q ce sl sh (pc + 1) ls (vI (w32 (a + b)) :: st) g z r) : RJ M mc ms n0 Q ce sl sh pc ls (vI b :: vI a :: st) g z r := by
  intro p l e s m args below meth c dC dI cy ad0 ad adK adV A H locs Ls hC hn hd0 hst hW hS hO hl hs hL
  have hx := hC.1
  have hb := hC.2.1
  refine lv_iadd hx hb hd ?_
  have h := kk p l e s m args below meth c dC dI cy ad0 ad adK adV A H locs Ls hC hn hd0 hst hW hS hO hl (okc (v := vI (w32 (a + b))) (w32_in _) (okt (okt hs))) hL
  rw [List.map_cons, show cv ad (vI (w32 (a + b))) = .int (i32 (w32 (a + b))) from rfl, i32_w, i32, Int32.ofInt_add] at h
  exact h
theorem R_isub {a b : Int} (hd : decode M.2.1 pc = .ok (.isub, 1)) (kk : RJ M mc ms n0 Q ce sl sh (pc + 1) ls (vI (w32 (a - b)) :: st) g z r) : RJ M mc ms n0 Q ce sl sh pc ls (vI b :: vI a :: st) g z r := by
  intro p l e s m args below meth c dC dI cy ad0 ad adK adV A H locs Ls hC hn hd0 hst hW hS hO hl hs hL
  have hx := hC.1
  have hb := hC.2.1
  refine lv_isub hx hb hd ?_
  have h := kk p l e s m args below meth c dC dI cy ad0 ad adK adV A H locs Ls hC hn hd0 hst hW hS hO hl (okc (v := vI (w32 (a - b))) (w32_in _) (okt (okt hs))) hL
  rw [List.map_cons, show cv ad (vI (w32 (a - b))) = .int (i32 (w32 (a - b))) from rfl, i32_w, i32, Int32.ofInt_sub] at h
  exact h
theorem R_imul {a b : Int} (hd : decode M.2.1 pc = .ok (.imul, 1)) (kk : RJ M mc ms n0 Q ce sl sh (pc + 1) ls (vI (w32 (a * b)) :: st) g z r) : RJ M mc ms n0 Q ce sl sh pc ls (vI b :: vI a :: st) g z r := by
  intro p l e s m args below meth c dC dI cy ad0 ad adK adV A H locs Ls hC hn hd0 hst hW hS hO hl hs hL
  have hx := hC.1
  have hb := hC.2.1
  refine lv_imul hx hb hd ?_
  have h := kk p l e s m args below meth c dC dI cy ad0 ad adK adV A H locs Ls hC hn hd0 hst hW hS hO hl (okc (v := vI (w32 (a * b))) (w32_in _) (okt (okt hs))) hL
  rw [List.map_cons, show cv ad (vI (w32 (a * b))) = .int (i32 (w32 (a * b))) from rfl, i32_w, i32, Int32.ofInt_mul] at h
  exact h
theorem R_ineg {a : Int} (hd : decode M.2.1 pc = .ok (.ineg, 1)) (kk : RJ M mc ms n0 Q ce sl sh (pc + 1) ls (vI (w32 (-a)) :: st) g z r) : RJ M mc ms n0 Q ce sl sh pc ls (vI a :: st) g z r := by
  intro p l e s m args below meth c dC dI cy ad0 ad adK adV A H locs Ls hC hn hd0 hst hW hS hO hl hs hL
  have hx := hC.1
  have hb := hC.2.1
  refine lv_ineg hx hb hd ?_
  have h := kk p l e s m args below meth c dC dI cy ad0 ad adK adV A H locs Ls hC hn hd0 hst hW hS hO hl (okc (v := vI (w32 (-a))) (w32_in _) (okt hs)) hL
  rw [List.map_cons, show cv ad (vI (w32 (-a))) = .int (i32 (w32 (-a))) from rfl, i32_w, i32, Int32.ofInt_neg] at h
  exact h
theorem R_ladd {a b : Int} (hd : decode M.2.1 pc = .ok (.ladd, 1)) (kk : RJ M mc ms n0 Q ce sl sh (pc + 1) ls (vL (w64 (a + b)) :: st) g z r) : RJ M mc ms n0 Q ce sl sh pc ls (vL b :: vL a :: st) g z r := by
  intro p l e s m args below meth c dC dI cy ad0 ad adK adV A H locs Ls hC hn hd0 hst hW hS hO hl hs hL
  have hx := hC.1
  have hb := hC.2.1
  refine lv_ladd hx hb hd ?_
  have h := kk p l e s m args below meth c dC dI cy ad0 ad adK adV A H locs Ls hC hn hd0 hst hW hS hO hl (okc (v := vL (w64 (a + b))) (w64_in _) (okt (okt hs))) hL
  rw [List.map_cons, show cv ad (vL (w64 (a + b))) = .long (i64 (w64 (a + b))) from rfl, i64_w, i64, Int64.ofInt_add] at h
  exact h
def bAnd (a b : Int) : Int := (i32 a &&& i32 b).toInt
def bOr (a b : Int) : Int := (i32 a ||| i32 b).toInt
def bXor (a b : Int) : Int := (i32 a ^^^ i32 b).toInt
def bShl (a b : Int) : Int := (i32 a <<< (i32 b &&& 31)).toInt
def bShr (a b : Int) : Int := (i32 a >>> (i32 b &&& 31)).toInt
def bDiv (a b : Int) : Int := (i32 a / i32 b).toInt
def bRem (a b : Int) : Int := (i32 a - i32 a / i32 b * i32 b).toInt
theorem R_iand {a b : Int} (hd : decode M.2.1 pc = .ok (.iand, 1)) (kk : RJ M mc ms n0 Q ce sl sh (pc + 1) ls (vI (bAnd a b) :: st) g z r) : RJ M mc ms n0 Q ce sl sh pc ls (vI b :: vI a :: st) g z r := by
  intro p l e s m args below meth c dC dI cy ad0 ad adK adV A H locs Ls hC hn hd0 hst hW hS hO hl hs hL
  have hx := hC.1
  have hb := hC.2.1
  refine lv_iand hx hb hd ?_
  have h := kk p l e s m args below meth c dC dI cy ad0 ad adK adV A H locs Ls hC hn hd0 hst hW hS hO hl (okc (v := vI (bAnd a b)) (in32 _) (okt (okt hs))) hL
  rw [List.map_cons, show cv ad (vI (bAnd a b)) = .int (i32 (bAnd a b)) from rfl, bAnd, o32] at h
  exact h
theorem R_ior {a b : Int} (hd : decode M.2.1 pc = .ok (.ior, 1)) (kk : RJ M mc ms n0 Q ce sl sh (pc + 1) ls (vI (bOr a b) :: st) g z r) : RJ M mc ms n0 Q ce sl sh pc ls (vI b :: vI a :: st) g z r := by
  intro p l e s m args below meth c dC dI cy ad0 ad adK adV A H locs Ls hC hn hd0 hst hW hS hO hl hs hL
  have hx := hC.1
  have hb := hC.2.1
  refine lv_ior hx hb hd ?_
  have h := kk p l e s m args below meth c dC dI cy ad0 ad adK adV A H locs Ls hC hn hd0 hst hW hS hO hl (okc (v := vI (bOr a b)) (in32 _) (okt (okt hs))) hL
  rw [List.map_cons, show cv ad (vI (bOr a b)) = .int (i32 (bOr a b)) from rfl, bOr, o32] at h
  exact h
theorem R_ixor {a b : Int} (hd : decode M.2.1 pc = .ok (.ixor, 1)) (kk : RJ M mc ms n0 Q ce sl sh (pc + 1) ls (vI (bXor a b) :: st) g z r) : RJ M mc ms n0 Q ce sl sh pc ls (vI b :: vI a :: st) g z r := by
  intro p l e s m args below meth c dC dI cy ad0 ad adK adV A H locs Ls hC hn hd0 hst hW hS hO hl hs hL
  have hx := hC.1
  have hb := hC.2.1
  refine lv_ixor hx hb hd ?_
  have h := kk p l e s m args below meth c dC dI cy ad0 ad adK adV A H locs Ls hC hn hd0 hst hW hS hO hl (okc (v := vI (bXor a b)) (in32 _) (okt (okt hs))) hL
  rw [List.map_cons, show cv ad (vI (bXor a b)) = .int (i32 (bXor a b)) from rfl, bXor, o32] at h
  exact h
theorem R_ishl {a b : Int} (hd : decode M.2.1 pc = .ok (.ishl, 1)) (kk : RJ M mc ms n0 Q ce sl sh (pc + 1) ls (vI (bShl a b) :: st) g z r) : RJ M mc ms n0 Q ce sl sh pc ls (vI b :: vI a :: st) g z r := by
  intro p l e s m args below meth c dC dI cy ad0 ad adK adV A H locs Ls hC hn hd0 hst hW hS hO hl hs hL
  have hx := hC.1
  have hb := hC.2.1
  refine lv_ishl hx hb hd ?_
  have h := kk p l e s m args below meth c dC dI cy ad0 ad adK adV A H locs Ls hC hn hd0 hst hW hS hO hl (okc (v := vI (bShl a b)) (in32 _) (okt (okt hs))) hL
  rw [List.map_cons, show cv ad (vI (bShl a b)) = .int (i32 (bShl a b)) from rfl, bShl, o32] at h
  exact h
theorem R_ishr {a b : Int} (hd : decode M.2.1 pc = .ok (.ishr, 1)) (kk : RJ M mc ms n0 Q ce sl sh (pc + 1) ls (vI (bShr a b) :: st) g z r) : RJ M mc ms n0 Q ce sl sh pc ls (vI b :: vI a :: st) g z r := by
  intro p l e s m args below meth c dC dI cy ad0 ad adK adV A H locs Ls hC hn hd0 hst hW hS hO hl hs hL
  have hx := hC.1
  have hb := hC.2.1
  refine lv_ishr hx hb hd ?_
  have h := kk p l e s m args below meth c dC dI cy ad0 ad adK adV A H locs Ls hC hn hd0 hst hW hS hO hl (okc (v := vI (bShr a b)) (in32 _) (okt (okt hs))) hL
  rw [List.map_cons, show cv ad (vI (bShr a b)) = .int (i32 (bShr a b)) from rfl, bShr, o32] at h
  exact h
theorem R_idiv {a b : Int} (hd : decode M.2.1 pc = .ok (.idiv, 1)) (hne : b ≠ 0) (kk : RJ M mc ms n0 Q ce sl sh (pc + 1) ls (vI (bDiv a b) :: st) g z r) : RJ M mc ms n0 Q ce sl sh pc ls (vI b :: vI a :: st) g z r := by
  intro p l e s m args below meth c dC dI cy ad0 ad adK adV A H locs Ls hC hn hd0 hst hW hS hO hl hs hL
  have hx := hC.1
  have hb := hC.2.1
  refine lv_idiv hx hb hd (fun q => hne ((i32_eq (okx hs) inI0).mp q)) ?_
  have h := kk p l e s m args below meth c dC dI cy ad0 ad adK adV A H locs Ls hC hn hd0 hst hW hS hO hl (okc (v := vI (bDiv a b)) (in32 _) (okt (okt hs))) hL
  rw [List.map_cons, show cv ad (vI (bDiv a b)) = .int (i32 (bDiv a b)) from rfl, bDiv, o32] at h
  exact h
theorem R_irem {a b : Int} (hd : decode M.2.1 pc = .ok (.irem, 1)) (hne : b ≠ 0) (kk : RJ M mc ms n0 Q ce sl sh (pc + 1) ls (vI (bRem a b) :: st) g z r) : RJ M mc ms n0 Q ce sl sh pc ls (vI b :: vI a :: st) g z r := by
  intro p l e s m args below meth c dC dI cy ad0 ad adK adV A H locs Ls hC hn hd0 hst hW hS hO hl hs hL
  have hx := hC.1
  have hb := hC.2.1
  refine lv_irem hx hb hd (fun q => hne ((i32_eq (okx hs) inI0).mp q)) ?_
  have h := kk p l e s m args below meth c dC dI cy ad0 ad adK adV A H locs Ls hC hn hd0 hst hW hS hO hl (okc (v := vI (bRem a b)) (in32 _) (okt (okt hs))) hL
  rw [List.map_cons, show cv ad (vI (bRem a b)) = .int (i32 (bRem a b)) from rfl, bRem, o32] at h
  exact h
theorem R_i2l {a : Int} (hd : decode M.2.1 pc = .ok (.i2l, 1)) (kk : RJ M mc ms n0 Q ce sl sh (pc + 1) ls (vL a :: st) g z r) : RJ M mc ms n0 Q ce sl sh pc ls (vI a :: st) g z r := by
  intro p l e s m args below meth c dC dI cy ad0 ad adK adV A H locs Ls hC hn hd0 hst hW hS hO hl hs hL
  have hx := hC.1
  have hb := hC.2.1
  have ha : inI a := okx hs
  have hL2 : inL a := by unfold inI at ha; unfold inL; omega
  exact lv_i2l hx hb hd (v := i64 a) (by rw [← Int64.toInt_inj, t64 hL2, Int32.toInt_toInt64, t32 ha]) (kk p l e s m args below meth c dC dI cy ad0 ad adK adV A H locs Ls hC hn hd0 hst hW hS hO hl (okc (v := vL a) hL2 (okt hs)) hL)
def b8 (a : Int) : Int := (i32 a).toInt8.toInt32.toInt
def b16 (a : Int) : Int := ((i32 a).toUInt32 % 65536).toInt32.toInt
theorem R_i2b {a : Int} (hd : decode M.2.1 pc = .ok (.i2b, 1)) (kk : RJ M mc ms n0 Q ce sl sh (pc + 1) ls (vI (b8 a) :: st) g z r) : RJ M mc ms n0 Q ce sl sh pc ls (vI a :: st) g z r := by
  intro p l e s m args below meth c dC dI cy ad0 ad adK adV A H locs Ls hC hn hd0 hst hW hS hO hl hs hL
  have hx := hC.1
  have hb := hC.2.1
  exact lv_i2b hx hb hd (v := i32 (b8 a)) (by rw [b8, o32]) (kk p l e s m args below meth c dC dI cy ad0 ad adK adV A H locs Ls hC hn hd0 hst hW hS hO hl (okc (v := vI (b8 a)) (in32 _) (okt hs)) hL)
theorem R_i2c {a : Int} (hd : decode M.2.1 pc = .ok (.i2c, 1)) (kk : RJ M mc ms n0 Q ce sl sh (pc + 1) ls (vI (b16 a) :: st) g z r) : RJ M mc ms n0 Q ce sl sh pc ls (vI a :: st) g z r := by
  intro p l e s m args below meth c dC dI cy ad0 ad adK adV A H locs Ls hC hn hd0 hst hW hS hO hl hs hL
  have hx := hC.1
  have hb := hC.2.1
  exact lv_i2c hx hb hd (v := i32 (b16 a)) (by rw [b16, o32]) (kk p l e s m args below meth c dC dI cy ad0 ad adK adV A H locs Ls hC hn hd0 hst hW hS hO hl (okc (v := vI (b16 a)) (in32 _) (okt hs)) hL)
def lcm (a b : Int) : Int := if b < a then 1 else if a = b then 0 else -1
theorem R_lcmp {a b : Int} (hd : decode M.2.1 pc = .ok (.lcmp, 1)) (kk : RJ M mc ms n0 Q ce sl sh (pc + 1) ls (vI (lcm a b) :: st) g z r) : RJ M mc ms n0 Q ce sl sh pc ls (vL b :: vL a :: st) g z r := by
  intro p l e s m args below meth c dC dI cy ad0 ad adK adV A H locs Ls hC hn hd0 hst hW hS hO hl hs hL
  have hx := hC.1
  have hb := hC.2.1
  have hb1 : inL b := okx hs
  have ha1 : inL a := okx (okt hs)
  refine W.lcmp hx hb hd ?_
  have ee : lg_cmp (i64 a) (i64 b) = i32 (lcm a b) := by
    unfold lg_cmp lcm
    have q1 : i64 b < i64 a ↔ b < a := by rw [Int64.lt_iff_toInt_lt, t64 ha1, t64 hb1]
    have q2 : i64 a = i64 b ↔ a = b := by rw [← Int64.toInt_inj, t64 ha1, t64 hb1]
    simp only [GT.gt, q1, q2]
    split
    · rfl
    · split <;> rfl
  rw [ee]
  exact kk p l e s m args below meth c dC dI cy ad0 ad adK adV A H locs Ls hC hn hd0 hst hW hS hO hl (okc (v := vI (lcm a b)) (show inI (lcm a b) by unfold lcm inI; split; omega; split <;> omega) (okt (okt hs))) hL
theorem R_dup {v : AV} (hd : decode M.2.1 pc = .ok (.dup, 1)) (h0 : ∀ x, v ≠ vL x) (kk : RJ M mc ms n0 Q ce sl sh (pc + 1) ls (v :: v :: st) g z r) : RJ M mc ms n0 Q ce sl sh pc ls (v :: st) g z r := by
  intro p l e s m args below meth c dC dI cy ad0 ad adK adV A H locs Ls hC hn hd0 hst hW hS hO hl hs hL
  have hx := hC.1
  have hb := hC.2.1
  exact lv_dup hx hb hd (by rcases lv_cat (cv ad v) with q | q; exact q; exact absurd (cv_cat q).choose_spec (h0 _)) (kk p l e s m args below meth c dC dI cy ad0 ad adK adV A H locs Ls hC hn hd0 hst hW hS hO hl (okc (okx hs) hs) hL)
theorem R_pop {v : AV} (hd : decode M.2.1 pc = .ok (.pop, 1)) (h0 : ∀ x, v ≠ vL x) (kk : RJ M mc ms n0 Q ce sl sh (pc + 1) ls st g z r) : RJ M mc ms n0 Q ce sl sh pc ls (v :: st) g z r := by
  intro p l e s m args below meth c dC dI cy ad0 ad adK adV A H locs Ls hC hn hd0 hst hW hS hO hl hs hL
  have hx := hC.1
  have hb := hC.2.1
  exact lv_pop hx hb hd (by rcases lv_cat (cv ad v) with q | q; exact q; exact absurd (cv_cat q).choose_spec (h0 _)) (kk p l e s m args below meth c dC dI cy ad0 ad adK adV A H locs Ls hC hn hd0 hst hW hS hO hl (okt hs) hL)
theorem R_dup2 {v w : AV} (hd : decode M.2.1 pc = .ok (.dup2, 1)) (h0 : ∀ x, v ≠ vL x) (h1 : ∀ x, w ≠ vL x) (kk : RJ M mc ms n0 Q ce sl sh (pc + 1) ls (v :: w :: v :: w :: st) g z r) : RJ M mc ms n0 Q ce sl sh pc ls (v :: w :: st) g z r := by
  intro p l e s m args below meth c dC dI cy ad0 ad adK adV A H locs Ls hC hn hd0 hst hW hS hO hl hs hL
  have hx := hC.1
  have hb := hC.2.1
  exact lv_dup2_11 hx hb hd (by rcases lv_cat (cv ad v) with q | q; exact q; exact absurd (cv_cat q).choose_spec (h0 _)) (by rcases lv_cat (cv ad w) with q | q; exact q; exact absurd (cv_cat q).choose_spec (h1 _)) (kk p l e s m args below meth c dC dI cy ad0 ad adK adV A H locs Ls hC hn hd0 hst hW hS hO hl (okc (okx hs) (okc (okx (okt hs)) hs)) hL)
theorem R_iinc {k : Nat} {n x : Int} (hd : decode M.2.1 pc = .ok (.iinc k n, 3)) (h0 : ls[k]? = some (some (vI x))) (h2 : k < M.2.2.1) (h1 : nlg ls k = true) (kk : RJ M mc ms n0 Q ce sl sh (pc + 3) (ls.set k (some (vI (w32 (x + n))))) st g z r) : RJ M mc ms n0 Q ce sl sh pc ls st g z r := by
  intro p l e s m args below meth c dC dI cy ad0 ad adK adV A H locs Ls hC hn hd0 hst hW hS hO hl hs hL
  have hx := hC.1
  have hb := hC.2.1
  have hm : (k, cv ad (vI x)) ∈ lvl ad ls := lvl_mem.mpr ⟨k, vI x, h0, rfl⟩
  obtain ⟨j, hj⟩ := List.getElem?_of_mem hm
  exact lv_iinc hx hb hd hL hj (v := i32 (w32 (x + n))) (by rw [i32_w, i32, i32, Int32.ofInt_add]) h2 rfl (fun Ls' hL' => kk p l e s m args below meth c dC dI cy ad0 ad adK adV A H locs Ls' hC hn hd0 hst hW hS hO (set_ok hl (fun v hv => by cases hv; exact w32_in _)) hs (lvl_st1 (v := vI (w32 (x + n))) h1 hL'))
theorem R_icmp_eq {a b off : Int} (tgt : Nat) (hd : decode M.2.1 pc = .ok (.if_icmp .eq off, 3)) (ht : (pc : Int) + off = (tgt : Int)) (kt : a = b → RJ M mc ms n0 Q ce sl sh tgt ls st g z r) (kf : ¬ (a = b) → RJ M mc ms n0 Q ce sl sh (pc + 3) ls st g z r) : RJ M mc ms n0 Q ce sl sh pc ls (vI b :: vI a :: st) g z r := by
  intro p l e s m args below meth c dC dI cy ad0 ad adK adV A H locs Ls hC hn hd0 hst hW hS hO hl hs hL
  have hx := hC.1
  have hb := hC.2.1
  have hq := i32_eq (okx (okt hs)) (okx hs)
  exact lv_icmp_eq hx hb hd ht (fun q => kt (hq.mp q) p l e s m args below meth c dC dI cy ad0 ad adK adV A H locs Ls hC hn hd0 hst hW hS hO hl (okt (okt hs)) hL) (fun q => kf (fun w => q (hq.mpr w)) p l e s m args below meth c dC dI cy ad0 ad adK adV A H locs Ls hC hn hd0 hst hW hS hO hl (okt (okt hs)) hL)
theorem R_icmp_ne {a b off : Int} (tgt : Nat) (hd : decode M.2.1 pc = .ok (.if_icmp .ne off, 3)) (ht : (pc : Int) + off = (tgt : Int)) (kt : a ≠ b → RJ M mc ms n0 Q ce sl sh tgt ls st g z r) (kf : a = b → RJ M mc ms n0 Q ce sl sh (pc + 3) ls st g z r) : RJ M mc ms n0 Q ce sl sh pc ls (vI b :: vI a :: st) g z r := by
  intro p l e s m args below meth c dC dI cy ad0 ad adK adV A H locs Ls hC hn hd0 hst hW hS hO hl hs hL
  have hx := hC.1
  have hb := hC.2.1
  have hq := not_congr (i32_eq (okx (okt hs)) (okx hs))
  exact lv_icmp_ne hx hb hd ht (fun q => kt (hq.mp q) p l e s m args below meth c dC dI cy ad0 ad adK adV A H locs Ls hC hn hd0 hst hW hS hO hl (okt (okt hs)) hL) (fun q => kf ((i32_eq (okx (okt hs)) (okx hs)).mp q) p l e s m args below meth c dC dI cy ad0 ad adK adV A H locs Ls hC hn hd0 hst hW hS hO hl (okt (okt hs)) hL)
theorem R_icmp_lt {a b off : Int} (tgt : Nat) (hd : decode M.2.1 pc = .ok (.if_icmp .lt off, 3)) (ht : (pc : Int) + off = (tgt : Int)) (kt : a < b → RJ M mc ms n0 Q ce sl sh tgt ls st g z r) (kf : ¬ (a < b) → RJ M mc ms n0 Q ce sl sh (pc + 3) ls st g z r) : RJ M mc ms n0 Q ce sl sh pc ls (vI b :: vI a :: st) g z r := by
  intro p l e s m args below meth c dC dI cy ad0 ad adK adV A H locs Ls hC hn hd0 hst hW hS hO hl hs hL
  have hx := hC.1
  have hb := hC.2.1
  have hq := i32_lt (okx (okt hs)) (okx hs)
  exact lv_icmp_lt hx hb hd ht (fun q => kt (hq.mp q) p l e s m args below meth c dC dI cy ad0 ad adK adV A H locs Ls hC hn hd0 hst hW hS hO hl (okt (okt hs)) hL) (fun q => kf (fun w => q (hq.mpr w)) p l e s m args below meth c dC dI cy ad0 ad adK adV A H locs Ls hC hn hd0 hst hW hS hO hl (okt (okt hs)) hL)
theorem R_icmp_ge {a b off : Int} (tgt : Nat) (hd : decode M.2.1 pc = .ok (.if_icmp .ge off, 3)) (ht : (pc : Int) + off = (tgt : Int)) (kt : b ≤ a → RJ M mc ms n0 Q ce sl sh tgt ls st g z r) (kf : ¬ (b ≤ a) → RJ M mc ms n0 Q ce sl sh (pc + 3) ls st g z r) : RJ M mc ms n0 Q ce sl sh pc ls (vI b :: vI a :: st) g z r := by
  intro p l e s m args below meth c dC dI cy ad0 ad adK adV A H locs Ls hC hn hd0 hst hW hS hO hl hs hL
  have hx := hC.1
  have hb := hC.2.1
  have hq := i32_le (okx hs) (okx (okt hs))
  exact lv_icmp_ge hx hb hd ht (fun q => kt (hq.mp q) p l e s m args below meth c dC dI cy ad0 ad adK adV A H locs Ls hC hn hd0 hst hW hS hO hl (okt (okt hs)) hL) (fun q => kf (fun w => q (hq.mpr w)) p l e s m args below meth c dC dI cy ad0 ad adK adV A H locs Ls hC hn hd0 hst hW hS hO hl (okt (okt hs)) hL)
theorem R_icmp_gt {a b off : Int} (tgt : Nat) (hd : decode M.2.1 pc = .ok (.if_icmp .gt off, 3)) (ht : (pc : Int) + off = (tgt : Int)) (kt : b < a → RJ M mc ms n0 Q ce sl sh tgt ls st g z r) (kf : ¬ (b < a) → RJ M mc ms n0 Q ce sl sh (pc + 3) ls st g z r) : RJ M mc ms n0 Q ce sl sh pc ls (vI b :: vI a :: st) g z r := by
  intro p l e s m args below meth c dC dI cy ad0 ad adK adV A H locs Ls hC hn hd0 hst hW hS hO hl hs hL
  have hx := hC.1
  have hb := hC.2.1
  have hq := i32_lt (okx hs) (okx (okt hs))
  exact lv_icmp_gt hx hb hd ht (fun q => kt (hq.mp q) p l e s m args below meth c dC dI cy ad0 ad adK adV A H locs Ls hC hn hd0 hst hW hS hO hl (okt (okt hs)) hL) (fun q => kf (fun w => q (hq.mpr w)) p l e s m args below meth c dC dI cy ad0 ad adK adV A H locs Ls hC hn hd0 hst hW hS hO hl (okt (okt hs)) hL)
theorem R_icmp_le {a b off : Int} (tgt : Nat) (hd : decode M.2.1 pc = .ok (.if_icmp .le off, 3)) (ht : (pc : Int) + off = (tgt : Int)) (kt : a ≤ b → RJ M mc ms n0 Q ce sl sh tgt ls st g z r) (kf : ¬ (a ≤ b) → RJ M mc ms n0 Q ce sl sh (pc + 3) ls st g z r) : RJ M mc ms n0 Q ce sl sh pc ls (vI b :: vI a :: st) g z r := by
  intro p l e s m args below meth c dC dI cy ad0 ad adK adV A H locs Ls hC hn hd0 hst hW hS hO hl hs hL
  have hx := hC.1
  have hb := hC.2.1
  have hq := i32_le (okx (okt hs)) (okx hs)
  exact lv_icmp_le hx hb hd ht (fun q => kt (hq.mp q) p l e s m args below meth c dC dI cy ad0 ad adK adV A H locs Ls hC hn hd0 hst hW hS hO hl (okt (okt hs)) hL) (fun q => kf (fun w => q (hq.mpr w)) p l e s m args below meth c dC dI cy ad0 ad adK adV A H locs Ls hC hn hd0 hst hW hS hO hl (okt (okt hs)) hL)
theorem R_if_eq {a off : Int} (tgt : Nat) (hd : decode M.2.1 pc = .ok (.ifCond .eq off, 3)) (ht : (pc : Int) + off = (tgt : Int)) (kt : a = 0 → RJ M mc ms n0 Q ce sl sh tgt ls st g z r) (kf : ¬ (a = 0) → RJ M mc ms n0 Q ce sl sh (pc + 3) ls st g z r) : RJ M mc ms n0 Q ce sl sh pc ls (vI a :: st) g z r := by
  intro p l e s m args below meth c dC dI cy ad0 ad adK adV A H locs Ls hC hn hd0 hst hW hS hO hl hs hL
  have hx := hC.1
  have hb := hC.2.1
  have hq := i32_eq (okx hs) inI0
  exact lv_if_eq hx hb hd ht (fun q => kt (hq.mp q) p l e s m args below meth c dC dI cy ad0 ad adK adV A H locs Ls hC hn hd0 hst hW hS hO hl (okt hs) hL) (fun q => kf (fun w => q (hq.mpr w)) p l e s m args below meth c dC dI cy ad0 ad adK adV A H locs Ls hC hn hd0 hst hW hS hO hl (okt hs) hL)
theorem R_if_ne {a off : Int} (tgt : Nat) (hd : decode M.2.1 pc = .ok (.ifCond .ne off, 3)) (ht : (pc : Int) + off = (tgt : Int)) (kt : a ≠ 0 → RJ M mc ms n0 Q ce sl sh tgt ls st g z r) (kf : a = 0 → RJ M mc ms n0 Q ce sl sh (pc + 3) ls st g z r) : RJ M mc ms n0 Q ce sl sh pc ls (vI a :: st) g z r := by
  intro p l e s m args below meth c dC dI cy ad0 ad adK adV A H locs Ls hC hn hd0 hst hW hS hO hl hs hL
  have hx := hC.1
  have hb := hC.2.1
  have hq := not_congr (i32_eq (okx hs) inI0)
  exact lv_if_ne hx hb hd ht (fun q => kt (hq.mp q) p l e s m args below meth c dC dI cy ad0 ad adK adV A H locs Ls hC hn hd0 hst hW hS hO hl (okt hs) hL) (fun q => kf ((i32_eq (okx hs) inI0).mp q) p l e s m args below meth c dC dI cy ad0 ad adK adV A H locs Ls hC hn hd0 hst hW hS hO hl (okt hs) hL)
theorem R_if_lt {a off : Int} (tgt : Nat) (hd : decode M.2.1 pc = .ok (.ifCond .lt off, 3)) (ht : (pc : Int) + off = (tgt : Int)) (kt : a < 0 → RJ M mc ms n0 Q ce sl sh tgt ls st g z r) (kf : ¬ (a < 0) → RJ M mc ms n0 Q ce sl sh (pc + 3) ls st g z r) : RJ M mc ms n0 Q ce sl sh pc ls (vI a :: st) g z r := by
  intro p l e s m args below meth c dC dI cy ad0 ad adK adV A H locs Ls hC hn hd0 hst hW hS hO hl hs hL
  have hx := hC.1
  have hb := hC.2.1
  have hq := i32_lt (okx hs) inI0
  exact lv_if_lt hx hb hd ht (fun q => kt (hq.mp q) p l e s m args below meth c dC dI cy ad0 ad adK adV A H locs Ls hC hn hd0 hst hW hS hO hl (okt hs) hL) (fun q => kf (fun w => q (hq.mpr w)) p l e s m args below meth c dC dI cy ad0 ad adK adV A H locs Ls hC hn hd0 hst hW hS hO hl (okt hs) hL)
theorem R_if_ge {a off : Int} (tgt : Nat) (hd : decode M.2.1 pc = .ok (.ifCond .ge off, 3)) (ht : (pc : Int) + off = (tgt : Int)) (kt : 0 ≤ a → RJ M mc ms n0 Q ce sl sh tgt ls st g z r) (kf : ¬ (0 ≤ a) → RJ M mc ms n0 Q ce sl sh (pc + 3) ls st g z r) : RJ M mc ms n0 Q ce sl sh pc ls (vI a :: st) g z r := by
  intro p l e s m args below meth c dC dI cy ad0 ad adK adV A H locs Ls hC hn hd0 hst hW hS hO hl hs hL
  have hx := hC.1
  have hb := hC.2.1
  have hq := i32_le inI0 (okx hs)
  exact lv_if_ge hx hb hd ht (fun q => kt (hq.mp q) p l e s m args below meth c dC dI cy ad0 ad adK adV A H locs Ls hC hn hd0 hst hW hS hO hl (okt hs) hL) (fun q => kf (fun w => q (hq.mpr w)) p l e s m args below meth c dC dI cy ad0 ad adK adV A H locs Ls hC hn hd0 hst hW hS hO hl (okt hs) hL)
theorem R_if_gt {a off : Int} (tgt : Nat) (hd : decode M.2.1 pc = .ok (.ifCond .gt off, 3)) (ht : (pc : Int) + off = (tgt : Int)) (kt : 0 < a → RJ M mc ms n0 Q ce sl sh tgt ls st g z r) (kf : ¬ (0 < a) → RJ M mc ms n0 Q ce sl sh (pc + 3) ls st g z r) : RJ M mc ms n0 Q ce sl sh pc ls (vI a :: st) g z r := by
  intro p l e s m args below meth c dC dI cy ad0 ad adK adV A H locs Ls hC hn hd0 hst hW hS hO hl hs hL
  have hx := hC.1
  have hb := hC.2.1
  have hq := i32_lt inI0 (okx hs)
  exact lv_if_gt hx hb hd ht (fun q => kt (hq.mp q) p l e s m args below meth c dC dI cy ad0 ad adK adV A H locs Ls hC hn hd0 hst hW hS hO hl (okt hs) hL) (fun q => kf (fun w => q (hq.mpr w)) p l e s m args below meth c dC dI cy ad0 ad adK adV A H locs Ls hC hn hd0 hst hW hS hO hl (okt hs) hL)
theorem R_if_le {a off : Int} (tgt : Nat) (hd : decode M.2.1 pc = .ok (.ifCond .le off, 3)) (ht : (pc : Int) + off = (tgt : Int)) (kt : a ≤ 0 → RJ M mc ms n0 Q ce sl sh tgt ls st g z r) (kf : ¬ (a ≤ 0) → RJ M mc ms n0 Q ce sl sh (pc + 3) ls st g z r) : RJ M mc ms n0 Q ce sl sh pc ls (vI a :: st) g z r := by
  intro p l e s m args below meth c dC dI cy ad0 ad adK adV A H locs Ls hC hn hd0 hst hW hS hO hl hs hL
  have hx := hC.1
  have hb := hC.2.1
  have hq := i32_le (okx hs) inI0
  exact lv_if_le hx hb hd ht (fun q => kt (hq.mp q) p l e s m args below meth c dC dI cy ad0 ad adK adV A H locs Ls hC hn hd0 hst hW hS hO hl (okt hs) hL) (fun q => kf (fun w => q (hq.mpr w)) p l e s m args below meth c dC dI cy ad0 ad adK adV A H locs Ls hC hn hd0 hst hW hS hO hl (okt hs) hL)
theorem R_goto {off : Int} (tgt : Nat) (hd : decode M.2.1 pc = .ok (.goto off, 3)) (ht : (pc : Int) + off = (tgt : Int)) (kk : RJ M mc ms n0 Q ce sl sh tgt ls st g z r) : RJ M mc ms n0 Q ce sl sh pc ls st g z r := by
  intro p l e s m args below meth c dC dI cy ad0 ad adK adV A H locs Ls hC hn hd0 hst hW hS hO hl hs hL
  have hx := hC.1
  have hb := hC.2.1
  exact lv_goto hx hb hd ht (kk p l e s m args below meth c dC dI cy ad0 ad adK adV A H locs Ls hC hn hd0 hst hW hS hO hl hs hL)
theorem R_ifnull {a : Option Nat} {off : Int} (tgt : Nat) (hd : decode M.2.1 pc = .ok (.ifnull off, 3)) (ht : (pc : Int) + off = (tgt : Int)) (kt : a = none → RJ M mc ms n0 Q ce sl sh tgt ls st g z r) (kf : ∀ x, a = some x → RJ M mc ms n0 Q ce sl sh (pc + 3) ls st g z r) : RJ M mc ms n0 Q ce sl sh pc ls (vR a :: st) g z r := by
  intro p l e s m args below meth c dC dI cy ad0 ad adK adV A H locs Ls hC hn hd0 hst hW hS hO hl hs hL
  have hx := hC.1
  have hb := hC.2.1
  cases a with
  | none => exact lv_ifnullN hx hb hd ht (kt rfl p l e s m args below meth c dC dI cy ad0 ad adK adV A H locs Ls hC hn hd0 hst hW hS hO hl (okt hs) hL)
  | some x => exact lv_ifnull hx hb hd (kf x rfl p l e s m args below meth c dC dI cy ad0 ad adK adV A H locs Ls hC hn hd0 hst hW hS hO hl (okt hs) hL)
theorem R_ifnonnull {a : Option Nat} {off : Int} (tgt : Nat) (hd : decode M.2.1 pc = .ok (.ifnonnull off, 3)) (ht : (pc : Int) + off = (tgt : Int)) (kt : ∀ x, a = some x → RJ M mc ms n0 Q ce sl sh tgt ls st g z r) (kf : a = none → RJ M mc ms n0 Q ce sl sh (pc + 3) ls st g z r) : RJ M mc ms n0 Q ce sl sh pc ls (vR a :: st) g z r := by
  intro p l e s m args below meth c dC dI cy ad0 ad adK adV A H locs Ls hC hn hd0 hst hW hS hO hl hs hL
  have hx := hC.1
  have hb := hC.2.1
  cases a with
  | none => exact lv_ifnonnullN hx hb hd (kf rfl p l e s m args below meth c dC dI cy ad0 ad adK adV A H locs Ls hC hn hd0 hst hW hS hO hl (okt hs) hL)
  | some x => exact lv_ifnonnull hx hb hd ht (kt x rfl p l e s m args below meth c dC dI cy ad0 ad adK adV A H locs Ls hC hn hd0 hst hW hS hO hl (okt hs) hL)
theorem R_tsIn {dflt lo hi a off : Int} {offs : Array Int} {len : Nat} (tgt : Nat) (hd : decode M.2.1 pc = .ok (.tableswitch dflt lo hi offs, len)) (h1 : lo ≤ a) (h2 : a ≤ hi) (ho : offs[(a - lo).toNat]? = some off) (ht : (pc : Int) + off = (tgt : Int)) (kk : RJ M mc ms n0 Q ce sl sh tgt ls st g z r) : RJ M mc ms n0 Q ce sl sh pc ls (vI a :: st) g z r := by
  intro p l e s m args below meth c dC dI cy ad0 ad adK adV A H locs Ls hC hn hd0 hst hW hS hO hl hs hL
  have hx := hC.1
  have hb := hC.2.1
  have ha : (i32 a).toInt = a := t32 (okx hs)
  exact lv_tableIn hx hb hd (by rw [ha]; omega) (by rw [ha]; omega) (by rw [ha]; exact ho) ht (kk p l e s m args below meth c dC dI cy ad0 ad adK adV A H locs Ls hC hn hd0 hst hW hS hO hl (okt hs) hL)
theorem R_tsOut {dflt lo hi a : Int} {offs : Array Int} {len : Nat} (tgt : Nat) (hd : decode M.2.1 pc = .ok (.tableswitch dflt lo hi offs, len)) (h1 : a < lo ∨ hi < a) (ht : (pc : Int) + dflt = (tgt : Int)) (kk : RJ M mc ms n0 Q ce sl sh tgt ls st g z r) : RJ M mc ms n0 Q ce sl sh pc ls (vI a :: st) g z r := by
  intro p l e s m args below meth c dC dI cy ad0 ad adK adV A H locs Ls hC hn hd0 hst hW hS hO hl hs hL
  have hx := hC.1
  have hb := hC.2.1
  have ha : (i32 a).toInt = a := t32 (okx hs)
  exact lv_tableOut hx hb hd (by rw [ha]; exact h1) ht (kk p l e s m args below meth c dC dI cy ad0 ad adK adV A H locs Ls hC hn hd0 hst hW hS hO hl (okt hs) hL)
theorem R_look {dflt a off : Int} {ps : Array (Int × Int)} {len : Nat} (tgt : Nat) (hd : decode M.2.1 pc = .ok (.lookupswitch dflt ps, len)) (hp : (ps.toList.zip (ps.toList.drop 1)).all (fun (a, next) => a.1 < next.1) = true) (ho : Op.lookupswitch.offset ps.toList dflt a = off) (ht : (pc : Int) + off = (tgt : Int)) (kk : RJ M mc ms n0 Q ce sl sh tgt ls st g z r) : RJ M mc ms n0 Q ce sl sh pc ls (vI a :: st) g z r := by
  intro p l e s m args below meth c dC dI cy ad0 ad adK adV A H locs Ls hC hn hd0 hst hW hS hO hl hs hL
  have hx := hC.1
  have hb := hC.2.1
  have ha : (i32 a).toInt = a := t32 (okx hs)
  exact lv_lookup hx hb hd hp (by rw [ha]; exact ho) ht (kk p l e s m args below meth c dC dI cy ad0 ad adK adV A H locs Ls hC hn hd0 hst hW hS hO hl (okt hs) hL)
end RULES
end
section
section HEAP
def FD (ci k : Nat) (C nm ds : String) (fin : Bool) (t : Nat) : Prop := ∃ (T : u_T) (N : Nat) (ty0 : Nat → FieldType), vwCl[ci]? = some (C, T, N) ∧ (∀ w ∈ u_ws C T N, w ∈ TB) ∧ k < N ∧ T k = (C, nm, ds, fin) ∧ (∀ k, k < N → parseFieldDescriptor (T k).2.2.1 = some (ty0 k)) ∧ (∀ a, a < N → ∀ b, b < N → a ≠ b → (T a).2.1 ≠ (T b).2.1) ∧ (fk ci).length = N ∧ (fk ci)[k]? = some t ∧ ci < 13
theorem fv_len {ad : Nat → Nat} {g z : GG} {r : RR} {c ci : Nat} : (fv ad g z r c ci).length = (fk ci).length := by simp [fv]
theorem fv_get {ad : Nat → Nat} {g z : GG} {r : RR} {c ci k t : Nat} (h : (fk ci)[k]? = some t) : (fv ad g z r c ci)[k]? = some (if t = 0 then .int (i32 (g c k)) else if t = 1 then .long (i64 (z c k)) else va_rf ((r c k).map ad)) := by
  simp [fv, List.getElem?_mapIdx, h]
theorem fv_set {ad : Nat → Nat} {g z g' z' : GG} {r r' : RR} {c ci k t : Nat} {v : Value} (h : (fk ci)[k]? = some t) (hv : v = (if t = 0 then .int (i32 (g' c k)) else if t = 1 then .long (i64 (z' c k)) else va_rf ((r' c k).map ad))) (ho : ∀ k', k' ≠ k → g' c k' = g c k' ∧ z' c k' = z c k' ∧ r' c k' = r c k') : (fv ad g z r c ci).set k v = fv ad g' z' r' c ci := by
  apply List.ext_getElem?
  intro j
  rw [List.getElem?_set, fv_len]
  by_cases hj : k = j
  · subst hj
    have hl : k < (fk ci).length := (List.getElem?_eq_some_iff.mp h).1
    rw [if_pos rfl, if_pos hl, fv_get h, hv]
  · rw [if_neg hj]
    obtain ⟨e1, e2, e3⟩ := ho j (fun e => hj e.symm)
    simp only [fv, List.getElem?_mapIdx, e1, e2, e3]
theorem ce_obj {cy : Nat → ClassId} {ad : Nat → Nat} {g z : GG} {r : RR} {c ci n : Nat} (h : ci < 13) : ce cy ad g z r c (ci, n) = .inr (ci, fv ad g z r c ci) := by simp [ce, h]
theorem ce_i {cy : Nat → ClassId} {ad : Nat → Nat} {g z : GG} {r : RR} {c n : Nat} (k : Nat) (h : k = 13 ∨ k = 14 ∨ k = 15 ∨ k = 17) : ce cy ad g z r c (k, n) = .inl (cy k, n, .inl fun j => i32 (g c j)) := by
  rcases h with rfl | rfl | rfl | rfl <;> rfl
theorem ce_l {cy : Nat → ClassId} {ad : Nat → Nat} {g z : GG} {r : RR} {c n : Nat} : ce cy ad g z r c (16, n) = .inl (cy 16, n, .inr (.inl fun j => i64 (z c j))) := rfl
theorem ce_q {cy : Nat → ClassId} {ad : Nat → Nat} {g z : GG} {r : RR} {c n : Nat} : ce cy ad g z r c (18, n) = .inl (cy 18, n, .inr (.inr (.inr (.inr fun j => (r c j).map ad)))) := rfl
theorem up2_k {f : GG} {c k : Nat} {v : Int} {k' : Nat} (h : k' ≠ k) : up2 f c k v c k' = f c k' := by simp [up2, h]
theorem up2_s {f : GG} {c k : Nat} {v : Int} : up2 f c k v c k = v := by simp [up2]
theorem upR_k {f : RR} {c k : Nat} {v : Option Nat} {k' : Nat} (h : k' ≠ k) : upR f c k v c k' = f c k' := by simp [upR, h]
theorem upR_s {f : RR} {c k : Nat} {v : Option Nat} : upR f c k v c k = v := by simp [upR]
theorem upd_i {f : GG} {c k : Nat} {v : Int} : upd (fun j => i32 (f c j)) k (i32 v) = fun j => i32 (up2 f c k v c j) := by
  funext j
  by_cases h : j = k
  · subst h; simp [upd, up2]
  · simp [upd, up2, h]
variable {M : MI} {mc ms n0 : Nat} {Q : PQ} {ce sl : Nat} {sh : SH} {pc : Nat} {ls : List (Option AV)} {st : List AV} {g z : GG} {r : RR}
theorem R_getI {ci k index c n : Nat} {C nm ds : String} {fin : Bool} (hf : FD ci k C nm ds fin 0) (hk : Cond.fieldLink M.1.cls index C nm ds ∈ TB) (hs0 : sh[c]? = some (ci, n)) (hd : decode M.2.1 pc = .ok (.getfield index, 3)) (kk : RJ M mc ms n0 Q ce sl sh (pc + 3) ls (vI (g c k) :: st) g z r) : RJ M mc ms n0 Q ce sl sh pc ls (vR (some c) :: st) g z r := by
  intro p l e s m args below meth cd dC dI cy ad0 ad adK adV A H locs Ls hC hn hd0 hst hW hS hO hl hs hL
  have hx := hC.1
  have hb := hC.2.1
  obtain ⟨T, N, ty0, f1, f2, f3, f4, -, -, -, f8, f9⟩ := hf
  exact va_get (D := (dC, dI)) (ref := C) hx hb hC.2.2.2.2.2.2.2.1 f2 hC.2.2.2.2.2.1 hW.2.2 hW.1 c (by rw [wd_get hs0, ce_obj f9]) f1 k f3 (by rw [f4]; exact hC.2.2.2.2.2.2.2.1 _ hk) (by rw [f4]; exact fun _ h => h) (fv_get f8) hd (kk p l e s m args below meth cd dC dI cy ad0 ad adK adV A H locs Ls hC hn hd0 hst hW hS hO hl (okc (v := vI (g c k)) (hO.1 c k) (okt hs)) hL)
theorem R_getJ {ci k index c n : Nat} {C nm ds : String} {fin : Bool} (hf : FD ci k C nm ds fin 1) (hk : Cond.fieldLink M.1.cls index C nm ds ∈ TB) (hs0 : sh[c]? = some (ci, n)) (hd : decode M.2.1 pc = .ok (.getfield index, 3)) (kk : RJ M mc ms n0 Q ce sl sh (pc + 3) ls (vL (z c k) :: st) g z r) : RJ M mc ms n0 Q ce sl sh pc ls (vR (some c) :: st) g z r := by
  intro p l e s m args below meth cd dC dI cy ad0 ad adK adV A H locs Ls hC hn hd0 hst hW hS hO hl hs hL
  have hx := hC.1
  have hb := hC.2.1
  obtain ⟨T, N, ty0, f1, f2, f3, f4, -, -, -, f8, f9⟩ := hf
  exact va_get (D := (dC, dI)) (ref := C) hx hb hC.2.2.2.2.2.2.2.1 f2 hC.2.2.2.2.2.1 hW.2.2 hW.1 c (by rw [wd_get hs0, ce_obj f9]) f1 k f3 (by rw [f4]; exact hC.2.2.2.2.2.2.2.1 _ hk) (by rw [f4]; exact fun _ h => h) (fv_get f8) hd (kk p l e s m args below meth cd dC dI cy ad0 ad adK adV A H locs Ls hC hn hd0 hst hW hS hO hl (okc (v := vL (z c k)) (hO.2.1 c k) (okt hs)) hL)
theorem R_getR {ci k index c n : Nat} {C nm ds : String} {fin : Bool} (x : Option Nat) (hrx : r c k = x) (hf : FD ci k C nm ds fin 2) (hk : Cond.fieldLink M.1.cls index C nm ds ∈ TB) (hs0 : sh[c]? = some (ci, n)) (hd : decode M.2.1 pc = .ok (.getfield index, 3)) (kk : RJ M mc ms n0 Q ce sl sh (pc + 3) ls (vR x :: st) g z r) : RJ M mc ms n0 Q ce sl sh pc ls (vR (some c) :: st) g z r := by
  subst hrx
  intro p l e s m args below meth cd dC dI cy ad0 ad adK adV A H locs Ls hC hn hd0 hst hW hS hO hl hs hL
  have hx := hC.1
  have hb := hC.2.1
  obtain ⟨T, N, ty0, f1, f2, f3, f4, -, -, -, f8, f9⟩ := hf
  exact va_get (D := (dC, dI)) (ref := C) hx hb hC.2.2.2.2.2.2.2.1 f2 hC.2.2.2.2.2.1 hW.2.2 hW.1 c (by rw [wd_get hs0, ce_obj f9]) f1 k f3 (by rw [f4]; exact hC.2.2.2.2.2.2.2.1 _ hk) (by rw [f4]; exact fun _ h => h) (fv_get f8) hd (kk p l e s m args below meth cd dC dI cy ad0 ad adK adV A H locs Ls hC hn hd0 hst hW hS hO hl (okc (v := vR (r c k)) (fun a h => hO.2.2 c k a h) (okt hs)) hL)
theorem R_putI {ci k index c n : Nat} {C nm ds : String} {v : Int} (hf : FD ci k C nm ds false 0) (hty : parseFieldDescriptor ds = some (.int)) (hk : Cond.fieldLink M.1.cls index C nm ds ∈ TB) (hs0 : sh[c]? = some (ci, n)) (hd : decode M.2.1 pc = .ok (.putfield index, 3)) (kk : RJ M mc ms n0 Q ce sl sh (pc + 3) ls st (up2 g c k v) z r) : RJ M mc ms n0 Q ce sl sh pc ls (vI v :: vR (some c) :: st) g z r := by
  intro p l e s m args below meth cd dC dI cy ad0 ad adK adV A H locs Ls hC hn hd0 hst hW hS hO hl hs hL
  have hx := hC.1
  have hb := hC.2.1
  obtain ⟨T, N, ty0, f1, f2, f3, f4, f5, f6, f7, f8, f9⟩ := hf
  refine va_put (D := (dC, dI)) (ref := C) (v := cv ad (vI v)) (ty := .int) hx hb hC.2.2.2.2.2.2.2.1 f2 ty0 f5 f6 hC.2.2.2.2.2.1 hW.2.2 hW.1 hW.2.1 hS c (fs := fv ad g z r c ci) (by rw [wd_get hs0, ce_obj f9]) f1 k f3 (by rw [f4]; exact hC.2.2.2.2.2.2.2.1 _ hk) (by rw [f4]; exact fun _ h => h) (by rw [f4]) (by rw [f4]; exact hty) rfl rfl (by rw [fv_len, f7]; exact f3) hd (fun H1 locs1 hP1 hD1 hS1 => ?_)
  have hset : (wd cy ad sh g z r).set c (ad c, .inr (ci, (fv ad g z r c ci).set k (cv ad (vI v)))) = wd cy ad sh (up2 g c k v) z r := wd_set hs0 (by rw [ce_obj f9]; congr 2; exact fv_set f8 (by simp [cv, up2_s, upR_s]) (fun k' h' => ⟨by first | exact up2_k h' | rfl, by first | exact up2_k h' | rfl, by first | exact upR_k h' | rfl⟩)) (fun c' h' => ⟨by first | exact up2_ne h' | rfl, by first | exact up2_ne h' | rfl, by first | exact upR_ne h' | rfl⟩)
  rw [hset] at hP1 hD1
  exact kk p l e s m args below meth cd dC dI cy ad0 ad adK adV A H1 locs1 Ls hC hn hd0 hst ⟨hP1, hD1, hW.2.2⟩ hS1 ⟨up2_in hO.1 (okx hs), hO.2⟩ hl (okt (okt hs)) hL
theorem R_putZ {ci k index c n : Nat} {C nm ds : String} {v : Int} (h01 : v = 0 ∨ v = 1) (hf : FD ci k C nm ds false 0) (hty : parseFieldDescriptor ds = some (.boolean)) (hk : Cond.fieldLink M.1.cls index C nm ds ∈ TB) (hs0 : sh[c]? = some (ci, n)) (hd : decode M.2.1 pc = .ok (.putfield index, 3)) (kk : RJ M mc ms n0 Q ce sl sh (pc + 3) ls st (up2 g c k v) z r) : RJ M mc ms n0 Q ce sl sh pc ls (vI v :: vR (some c) :: st) g z r := by
  intro p l e s m args below meth cd dC dI cy ad0 ad adK adV A H locs Ls hC hn hd0 hst hW hS hO hl hs hL
  have hx := hC.1
  have hb := hC.2.1
  obtain ⟨T, N, ty0, f1, f2, f3, f4, f5, f6, f7, f8, f9⟩ := hf
  refine va_put (D := (dC, dI)) (ref := C) (v := cv ad (vI v)) (ty := .boolean) hx hb hC.2.2.2.2.2.2.2.1 f2 ty0 f5 f6 hC.2.2.2.2.2.1 hW.2.2 hW.1 hW.2.1 hS c (fs := fv ad g z r c ci) (by rw [wd_get hs0, ce_obj f9]) f1 k f3 (by rw [f4]; exact hC.2.2.2.2.2.2.2.1 _ hk) (by rw [f4]; exact fun _ h => h) (by rw [f4]) (by rw [f4]; exact hty) (by rcases h01 with rfl | rfl <;> rfl) (by rcases h01 with rfl | rfl <;> rfl) (by rw [fv_len, f7]; exact f3) hd (fun H1 locs1 hP1 hD1 hS1 => ?_)
  have hset : (wd cy ad sh g z r).set c (ad c, .inr (ci, (fv ad g z r c ci).set k (cv ad (vI v)))) = wd cy ad sh (up2 g c k v) z r := wd_set hs0 (by rw [ce_obj f9]; congr 2; exact fv_set f8 (by simp [cv, up2_s, upR_s]) (fun k' h' => ⟨by first | exact up2_k h' | rfl, by first | exact up2_k h' | rfl, by first | exact upR_k h' | rfl⟩)) (fun c' h' => ⟨by first | exact up2_ne h' | rfl, by first | exact up2_ne h' | rfl, by first | exact upR_ne h' | rfl⟩)
  rw [hset] at hP1 hD1
  exact kk p l e s m args below meth cd dC dI cy ad0 ad adK adV A H1 locs1 Ls hC hn hd0 hst ⟨hP1, hD1, hW.2.2⟩ hS1 ⟨up2_in hO.1 (okx hs), hO.2⟩ hl (okt (okt hs)) hL
theorem R_putJ {ci k index c n : Nat} {C nm ds : String} {v : Int} (hf : FD ci k C nm ds false 1) (hty : parseFieldDescriptor ds = some (.long)) (hk : Cond.fieldLink M.1.cls index C nm ds ∈ TB) (hs0 : sh[c]? = some (ci, n)) (hd : decode M.2.1 pc = .ok (.putfield index, 3)) (kk : RJ M mc ms n0 Q ce sl sh (pc + 3) ls st g (up2 z c k v) r) : RJ M mc ms n0 Q ce sl sh pc ls (vL v :: vR (some c) :: st) g z r := by
  intro p l e s m args below meth cd dC dI cy ad0 ad adK adV A H locs Ls hC hn hd0 hst hW hS hO hl hs hL
  have hx := hC.1
  have hb := hC.2.1
  obtain ⟨T, N, ty0, f1, f2, f3, f4, f5, f6, f7, f8, f9⟩ := hf
  refine va_put (D := (dC, dI)) (ref := C) (v := cv ad (vL v)) (ty := .long) hx hb hC.2.2.2.2.2.2.2.1 f2 ty0 f5 f6 hC.2.2.2.2.2.1 hW.2.2 hW.1 hW.2.1 hS c (fs := fv ad g z r c ci) (by rw [wd_get hs0, ce_obj f9]) f1 k f3 (by rw [f4]; exact hC.2.2.2.2.2.2.2.1 _ hk) (by rw [f4]; exact fun _ h => h) (by rw [f4]) (by rw [f4]; exact hty) rfl rfl (by rw [fv_len, f7]; exact f3) hd (fun H1 locs1 hP1 hD1 hS1 => ?_)
  have hset : (wd cy ad sh g z r).set c (ad c, .inr (ci, (fv ad g z r c ci).set k (cv ad (vL v)))) = wd cy ad sh g (up2 z c k v) r := wd_set hs0 (by rw [ce_obj f9]; congr 2; exact fv_set f8 (by simp [cv, up2_s, upR_s]) (fun k' h' => ⟨by first | exact up2_k h' | rfl, by first | exact up2_k h' | rfl, by first | exact upR_k h' | rfl⟩)) (fun c' h' => ⟨by first | exact up2_ne h' | rfl, by first | exact up2_ne h' | rfl, by first | exact upR_ne h' | rfl⟩)
  rw [hset] at hP1 hD1
  exact kk p l e s m args below meth cd dC dI cy ad0 ad adK adV A H1 locs1 Ls hC hn hd0 hst ⟨hP1, hD1, hW.2.2⟩ hS1 ⟨hO.1, up2_inL hO.2.1 (okx hs), hO.2.2⟩ hl (okt (okt hs)) hL
theorem R_putR {ci k index c n : Nat} {C nm ds : String} {v : Nat} {E : String} (hf : FD ci k C nm ds false 2) (hty : parseFieldDescriptor ds = some (.object E)) (hk : Cond.fieldLink M.1.cls index C nm ds ∈ TB) (hs0 : sh[c]? = some (ci, n)) (hd : decode M.2.1 pc = .ok (.putfield index, 3)) (kk : RJ M mc ms n0 Q ce sl sh (pc + 3) ls st g z (upR r c k (some v))) : RJ M mc ms n0 Q ce sl sh pc ls (vR (some v) :: vR (some c) :: st) g z r := by
  intro p l e s m args below meth cd dC dI cy ad0 ad adK adV A H locs Ls hC hn hd0 hst hW hS hO hl hs hL
  have hx := hC.1
  have hb := hC.2.1
  obtain ⟨T, N, ty0, f1, f2, f3, f4, f5, f6, f7, f8, f9⟩ := hf
  refine va_put (D := (dC, dI)) (ref := C) (v := cv ad (vR (some v))) (ty := .object E) hx hb hC.2.2.2.2.2.2.2.1 f2 ty0 f5 f6 hC.2.2.2.2.2.1 hW.2.2 hW.1 hW.2.1 hS c (fs := fv ad g z r c ci) (by rw [wd_get hs0, ce_obj f9]) f1 k f3 (by rw [f4]; exact hC.2.2.2.2.2.2.2.1 _ hk) (by rw [f4]; exact fun _ h => h) (by rw [f4]) (by rw [f4]; exact hty) rfl rfl (by rw [fv_len, f7]; exact f3) hd (fun H1 locs1 hP1 hD1 hS1 => ?_)
  have hset : (wd cy ad sh g z r).set c (ad c, .inr (ci, (fv ad g z r c ci).set k (cv ad (vR (some v))))) = wd cy ad sh g z (upR r c k (some v)) := wd_set hs0 (by rw [ce_obj f9]; congr 2; exact fv_set f8 (by simp [cv, up2_s, upR_s]) (fun k' h' => ⟨by first | exact up2_k h' | rfl, by first | exact up2_k h' | rfl, by first | exact upR_k h' | rfl⟩)) (fun c' h' => ⟨by first | exact up2_ne h' | rfl, by first | exact up2_ne h' | rfl, by first | exact upR_ne h' | rfl⟩)
  rw [hset] at hP1 hD1
  exact kk p l e s m args below meth cd dC dI cy ad0 ad adK adV A H1 locs1 Ls hC hn hd0 hst ⟨hP1, hD1, hW.2.2⟩ hS1 ⟨hO.1, hO.2.1, fun c1 k1 a1 h1 => by unfold upR at h1; split at h1; exact okx hs a1 h1; exact hO.2.2 c1 k1 a1 h1⟩ hl (okt (okt hs)) hL
theorem R_putRF {ci k index c n : Nat} {C nm ds : String} {v : Nat} {E : String} (hf : FD ci k C nm ds true 2) (hty : parseFieldDescriptor ds = some (.object E)) (hini : M.1.name = "<init>") (hown : M.1.cls = C) (hk : Cond.fieldLink M.1.cls index C nm ds ∈ TB) (hs0 : sh[c]? = some (ci, n)) (hd : decode M.2.1 pc = .ok (.putfield index, 3)) (kk : RJ M mc ms n0 Q ce sl sh (pc + 3) ls st g z (upR r c k (some v))) : RJ M mc ms n0 Q ce sl sh pc ls (vR (some v) :: vR (some c) :: st) g z r := by
  intro p l e s m args below meth cd dC dI cy ad0 ad adK adV A H locs Ls hC hn hd0 hst hW hS hO hl hs hL
  have hx := hC.1
  have hb := hC.2.1
  obtain ⟨T, N, ty0, f1, f2, f3, f4, f5, f6, f7, f8, f9⟩ := hf
  refine va_putF (D := (dC, dI)) (ref := C) (v := cv ad (vR (some v))) (ty := .object E) hx hb hC.2.2.2.2.2.2.2.1 f2 ty0 f5 f6 hC.2.2.2.2.2.1 hW.2.2 hW.1 hW.2.1 hS c (fs := fv ad g z r c ci) (by rw [wd_get hs0, ce_obj f9]) f1 k f3 (by rw [f4]; exact hC.2.2.2.2.2.2.2.1 _ hk) (by rw [f4]; exact fun _ h => h) (by rw [f4]) (hC.2.2.2.2.2.2.1.trans hini) (by rw [f4]; exact hown.symm) (by rw [f4]; exact hty) rfl rfl (by rw [fv_len, f7]; exact f3) hd (fun H1 locs1 hP1 hD1 hS1 => ?_)
  have hset : (wd cy ad sh g z r).set c (ad c, .inr (ci, (fv ad g z r c ci).set k (cv ad (vR (some v))))) = wd cy ad sh g z (upR r c k (some v)) := wd_set hs0 (by rw [ce_obj f9]; congr 2; exact fv_set f8 (by simp [cv, up2_s, upR_s]) (fun k' h' => ⟨by first | exact up2_k h' | rfl, by first | exact up2_k h' | rfl, by first | exact upR_k h' | rfl⟩)) (fun c' h' => ⟨by first | exact up2_ne h' | rfl, by first | exact up2_ne h' | rfl, by first | exact upR_ne h' | rfl⟩)
  rw [hset] at hP1 hD1
  exact kk p l e s m args below meth cd dC dI cy ad0 ad adK adV A H1 locs1 Ls hC hn hd0 hst ⟨hP1, hD1, hW.2.2⟩ hS1 ⟨hO.1, hO.2.1, fun c1 k1 a1 h1 => by unfold upR at h1; split at h1; exact okx hs a1 h1; exact hO.2.2 c1 k1 a1 h1⟩ hl (okt (okt hs)) hL
theorem R_putAF {ci k index c n : Nat} {C nm ds : String} {v : Nat} {E : FieldType} (hf : FD ci k C nm ds true 2) (hty : parseFieldDescriptor ds = some (.array E)) (hini : M.1.name = "<init>") (hown : M.1.cls = C) (hk : Cond.fieldLink M.1.cls index C nm ds ∈ TB) (hs0 : sh[c]? = some (ci, n)) (hd : decode M.2.1 pc = .ok (.putfield index, 3)) (kk : RJ M mc ms n0 Q ce sl sh (pc + 3) ls st g z (upR r c k (some v))) : RJ M mc ms n0 Q ce sl sh pc ls (vR (some v) :: vR (some c) :: st) g z r := by
  intro p l e s m args below meth cd dC dI cy ad0 ad adK adV A H locs Ls hC hn hd0 hst hW hS hO hl hs hL
  have hx := hC.1
  have hb := hC.2.1
  obtain ⟨T, N, ty0, f1, f2, f3, f4, f5, f6, f7, f8, f9⟩ := hf
  refine va_putF (D := (dC, dI)) (ref := C) (v := cv ad (vR (some v))) (ty := .array E) hx hb hC.2.2.2.2.2.2.2.1 f2 ty0 f5 f6 hC.2.2.2.2.2.1 hW.2.2 hW.1 hW.2.1 hS c (fs := fv ad g z r c ci) (by rw [wd_get hs0, ce_obj f9]) f1 k f3 (by rw [f4]; exact hC.2.2.2.2.2.2.2.1 _ hk) (by rw [f4]; exact fun _ h => h) (by rw [f4]) (hC.2.2.2.2.2.2.1.trans hini) (by rw [f4]; exact hown.symm) (by rw [f4]; exact hty) rfl rfl (by rw [fv_len, f7]; exact f3) hd (fun H1 locs1 hP1 hD1 hS1 => ?_)
  have hset : (wd cy ad sh g z r).set c (ad c, .inr (ci, (fv ad g z r c ci).set k (cv ad (vR (some v))))) = wd cy ad sh g z (upR r c k (some v)) := wd_set hs0 (by rw [ce_obj f9]; congr 2; exact fv_set f8 (by simp [cv, up2_s, upR_s]) (fun k' h' => ⟨by first | exact up2_k h' | rfl, by first | exact up2_k h' | rfl, by first | exact upR_k h' | rfl⟩)) (fun c' h' => ⟨by first | exact up2_ne h' | rfl, by first | exact up2_ne h' | rfl, by first | exact upR_ne h' | rfl⟩)
  rw [hset] at hP1 hD1
  exact kk p l e s m args below meth cd dC dI cy ad0 ad adK adV A H1 locs1 Ls hC hn hd0 hst ⟨hP1, hD1, hW.2.2⟩ hS1 ⟨hO.1, hO.2.1, fun c1 k1 a1 h1 => by unfold upR at h1; split at h1; exact okx hs a1 h1; exact hO.2.2 c1 k1 a1 h1⟩ hl (okt (okt hs)) hL
theorem R_iald {c n : Nat} {i : Int} (hs0 : sh[c]? = some (15, n)) (h0 : 0 ≤ i) (h1 : i < (n : Int)) (hd : decode M.2.1 pc = .ok (.iaload, 1)) (kk : RJ M mc ms n0 Q ce sl sh (pc + 1) ls (vI (g c i.toNat) :: st) g z r) : RJ M mc ms n0 Q ce sl sh pc ls (vI i :: vR (some c) :: st) g z r := by
  intro p l e s m args below meth cd dC dI cy ad0 ad adK adV A H locs Ls hC hn hd0 hst hW hS hO hl hs hL
  have hx := hC.1
  have hb := hC.2.1
  have hi : inI i := okx hs
  refine va_iald hx hb hW.2.2 hW.1 c 2 (by rw [wd_get hs0, ce_i 15 (by decide)]) rfl (vp_inI hi h0 h1) hd ?_
  rw [i32_clamp hi]
  exact kk p l e s m args below meth cd dC dI cy ad0 ad adK adV A H locs Ls hC hn hd0 hst hW hS hO hl (okc (v := vI (g c i.toNat)) (hO.1 c _) (okt (okt hs))) hL
theorem R_bald {c n : Nat} {i : Int} (hs0 : sh[c]? = some (13, n)) (h0 : 0 ≤ i) (h1 : i < (n : Int)) (hd : decode M.2.1 pc = .ok (.baload, 1)) (kk : RJ M mc ms n0 Q ce sl sh (pc + 1) ls (vI (g c i.toNat) :: st) g z r) : RJ M mc ms n0 Q ce sl sh pc ls (vI i :: vR (some c) :: st) g z r := by
  intro p l e s m args below meth cd dC dI cy ad0 ad adK adV A H locs Ls hC hn hd0 hst hW hS hO hl hs hL
  have hx := hC.1
  have hb := hC.2.1
  have hi : inI i := okx hs
  refine va_bald hx hb hW.2.2 hW.1 c 0 (by rw [wd_get hs0, ce_i 13 (by decide)]) rfl (vp_inI hi h0 h1) hd ?_
  rw [i32_clamp hi]
  exact kk p l e s m args below meth cd dC dI cy ad0 ad adK adV A H locs Ls hC hn hd0 hst hW hS hO hl (okc (v := vI (g c i.toNat)) (hO.1 c _) (okt (okt hs))) hL
theorem R_zald {c n : Nat} {i : Int} (hs0 : sh[c]? = some (17, n)) (h0 : 0 ≤ i) (h1 : i < (n : Int)) (hd : decode M.2.1 pc = .ok (.baload, 1)) (kk : RJ M mc ms n0 Q ce sl sh (pc + 1) ls (vI (g c i.toNat) :: st) g z r) : RJ M mc ms n0 Q ce sl sh pc ls (vI i :: vR (some c) :: st) g z r := by
  intro p l e s m args below meth cd dC dI cy ad0 ad adK adV A H locs Ls hC hn hd0 hst hW hS hO hl hs hL
  have hx := hC.1
  have hb := hC.2.1
  have hi : inI i := okx hs
  refine va_zald hx hb hW.2.2 hW.1 c 4 (by rw [wd_get hs0, ce_i 17 (by decide)]) rfl (vp_inI hi h0 h1) hd ?_
  rw [i32_clamp hi]
  exact kk p l e s m args below meth cd dC dI cy ad0 ad adK adV A H locs Ls hC hn hd0 hst hW hS hO hl (okc (v := vI (g c i.toNat)) (hO.1 c _) (okt (okt hs))) hL
theorem R_cald {c n : Nat} {i : Int} (hs0 : sh[c]? = some (14, n)) (h0 : 0 ≤ i) (h1 : i < (n : Int)) (hd : decode M.2.1 pc = .ok (.caload, 1)) (kk : RJ M mc ms n0 Q ce sl sh (pc + 1) ls (vI (g c i.toNat) :: st) g z r) : RJ M mc ms n0 Q ce sl sh pc ls (vI i :: vR (some c) :: st) g z r := by
  intro p l e s m args below meth cd dC dI cy ad0 ad adK adV A H locs Ls hC hn hd0 hst hW hS hO hl hs hL
  have hx := hC.1
  have hb := hC.2.1
  have hi : inI i := okx hs
  refine va_cald hx hb hW.2.2 hW.1 c 1 (by rw [wd_get hs0, ce_i 14 (by decide)]) rfl (vp_inI hi h0 h1) hd ?_
  rw [i32_clamp hi]
  exact kk p l e s m args below meth cd dC dI cy ad0 ad adK adV A H locs Ls hC hn hd0 hst hW hS hO hl (okc (v := vI (g c i.toNat)) (hO.1 c _) (okt (okt hs))) hL
theorem R_lald {c n : Nat} {i : Int} (hs0 : sh[c]? = some (16, n)) (h0 : 0 ≤ i) (h1 : i < (n : Int)) (hd : decode M.2.1 pc = .ok (.laload, 1)) (kk : RJ M mc ms n0 Q ce sl sh (pc + 1) ls (vL (z c i.toNat) :: st) g z r) : RJ M mc ms n0 Q ce sl sh pc ls (vI i :: vR (some c) :: st) g z r := by
  intro p l e s m args below meth cd dC dI cy ad0 ad adK adV A H locs Ls hC hn hd0 hst hW hS hO hl hs hL
  have hx := hC.1
  have hb := hC.2.1
  have hi : inI i := okx hs
  refine va_lald hx hb hW.2.2 hW.1 c 3 (by rw [wd_get hs0, ce_l]) rfl (vp_inI hi h0 h1) hd ?_
  rw [i32_clamp hi]
  exact kk p l e s m args below meth cd dC dI cy ad0 ad adK adV A H locs Ls hC hn hd0 hst hW hS hO hl (okc (v := vL (z c i.toNat)) (hO.2.1 c _) (okt (okt hs))) hL
theorem R_aald {c n : Nat} {i : Int} (x : Option Nat) (hrx : r c i.toNat = x) (hs0 : sh[c]? = some (18, n)) (h0 : 0 ≤ i) (h1 : i < (n : Int)) (hd : decode M.2.1 pc = .ok (.aaload, 1)) (kk : RJ M mc ms n0 Q ce sl sh (pc + 1) ls (vR x :: st) g z r) : RJ M mc ms n0 Q ce sl sh pc ls (vI i :: vR (some c) :: st) g z r := by
  subst hrx
  intro p l e s m args below meth cd dC dI cy ad0 ad adK adV A H locs Ls hC hn hd0 hst hW hS hO hl hs hL
  have hx := hC.1
  have hb := hC.2.1
  have hi : inI i := okx hs
  refine va_aldq hx hb hW.2.2 hW.1 c 5 (by rw [wd_get hs0, ce_q]) rfl (vp_inI hi h0 h1) hd ?_
  rw [i32_clamp hi]
  exact kk p l e s m args below meth cd dC dI cy ad0 ad adK adV A H locs Ls hC hn hd0 hst hW hS hO hl (okc (v := vR (r c i.toNat)) (fun a h => hO.2.2 c _ a h) (okt (okt hs))) hL
theorem R_iast {c n : Nat} {i v : Int} (hs0 : sh[c]? = some (15, n)) (h0 : 0 ≤ i) (h1 : i < (n : Int)) (hd : decode M.2.1 pc = .ok (.iastore, 1)) (kk : RJ M mc ms n0 Q ce sl sh (pc + 1) ls st (up2 g c i.toNat v) z r) : RJ M mc ms n0 Q ce sl sh pc ls (vI v :: vI i :: vR (some c) :: st) g z r := by
  intro p l e s m args below meth cd dC dI cy ad0 ad adK adV A H locs Ls hC hn hd0 hst hW hS hO hl hs hL
  have hx := hC.1
  have hb := hC.2.1
  have hi : inI i := okx (okt hs)
  have ev : i32 v = i32 v := rfl
  refine va_iast hx hb hW.2.2 hW.1 hW.2.1 hS c 2 (by rw [wd_get hs0, ce_i 15 (by decide)]) rfl (vp_inI hi h0 h1) hd (fun H1 locs1 hP1 hD1 hS1 => ?_)
  have hset : (wd cy ad sh g z r).set c (ad c, .inl (cy 15, n, .inl (upd (fun j => i32 (g c j)) (i32 i).toNatClampNeg (i32 v)))) = wd cy ad sh (up2 g c i.toNat v) z r := wd_set hs0 (by rw [ce_i 15 (by decide), i32_clamp hi, ev, upd_i]) (fun c' h' => ⟨up2_ne h', rfl, rfl⟩)
  rw [hset] at hP1 hD1
  exact kk p l e s m args below meth cd dC dI cy ad0 ad adK adV A H1 locs1 Ls hC hn hd0 hst ⟨hP1, hD1, hW.2.2⟩ hS1 ⟨up2_in hO.1 (okx hs), hO.2⟩ hl (okt (okt (okt hs))) hL
theorem R_bast {c n : Nat} {i v : Int} (hs0 : sh[c]? = some (13, n)) (h0 : 0 ≤ i) (h1 : i < (n : Int)) (hd : decode M.2.1 pc = .ok (.bastore, 1)) (kk : RJ M mc ms n0 Q ce sl sh (pc + 1) ls st (up2 g c i.toNat (b8 v)) z r) : RJ M mc ms n0 Q ce sl sh pc ls (vI v :: vI i :: vR (some c) :: st) g z r := by
  intro p l e s m args below meth cd dC dI cy ad0 ad adK adV A H locs Ls hC hn hd0 hst hW hS hO hl hs hL
  have hx := hC.1
  have hb := hC.2.1
  have hi : inI i := okx (okt hs)
  have ev : vp_nar .byte (i32 v) = i32 (b8 v) := (by rw [vp_nar_byte, b8, o32])
  refine va_bast hx hb hW.2.2 hW.1 hW.2.1 hS c 0 (by rw [wd_get hs0, ce_i 13 (by decide)]) rfl (vp_inI hi h0 h1) hd (fun H1 locs1 hP1 hD1 hS1 => ?_)
  have hset : (wd cy ad sh g z r).set c (ad c, .inl (cy 13, n, .inl (upd (fun j => i32 (g c j)) (i32 i).toNatClampNeg (vp_nar .byte (i32 v))))) = wd cy ad sh (up2 g c i.toNat (b8 v)) z r := wd_set hs0 (by rw [ce_i 13 (by decide), i32_clamp hi, ev, upd_i]) (fun c' h' => ⟨up2_ne h', rfl, rfl⟩)
  rw [hset] at hP1 hD1
  exact kk p l e s m args below meth cd dC dI cy ad0 ad adK adV A H1 locs1 Ls hC hn hd0 hst ⟨hP1, hD1, hW.2.2⟩ hS1 ⟨up2_in hO.1 (in32 _), hO.2⟩ hl (okt (okt (okt hs))) hL
theorem R_zast {c n : Nat} {i v : Int} (hs0 : sh[c]? = some (17, n)) (h01 : v = 0 ∨ v = 1) (h0 : 0 ≤ i) (h1 : i < (n : Int)) (hd : decode M.2.1 pc = .ok (.bastore, 1)) (kk : RJ M mc ms n0 Q ce sl sh (pc + 1) ls st (up2 g c i.toNat v) z r) : RJ M mc ms n0 Q ce sl sh pc ls (vI v :: vI i :: vR (some c) :: st) g z r := by
  intro p l e s m args below meth cd dC dI cy ad0 ad adK adV A H locs Ls hC hn hd0 hst hW hS hO hl hs hL
  have hx := hC.1
  have hb := hC.2.1
  have hi : inI i := okx (okt hs)
  have ev : vp_nar .boolean (i32 v) = i32 v := (by rcases h01 with rfl | rfl <;> rfl)
  refine va_zast hx hb hW.2.2 hW.1 hW.2.1 hS c 4 (by rw [wd_get hs0, ce_i 17 (by decide)]) rfl (vp_inI hi h0 h1) hd (fun H1 locs1 hP1 hD1 hS1 => ?_)
  have hset : (wd cy ad sh g z r).set c (ad c, .inl (cy 17, n, .inl (upd (fun j => i32 (g c j)) (i32 i).toNatClampNeg (vp_nar .boolean (i32 v))))) = wd cy ad sh (up2 g c i.toNat v) z r := wd_set hs0 (by rw [ce_i 17 (by decide), i32_clamp hi, ev, upd_i]) (fun c' h' => ⟨up2_ne h', rfl, rfl⟩)
  rw [hset] at hP1 hD1
  exact kk p l e s m args below meth cd dC dI cy ad0 ad adK adV A H1 locs1 Ls hC hn hd0 hst ⟨hP1, hD1, hW.2.2⟩ hS1 ⟨up2_in hO.1 (okx hs), hO.2⟩ hl (okt (okt (okt hs))) hL
theorem R_cast {c n : Nat} {i v : Int} (hs0 : sh[c]? = some (14, n)) (h01 : vp_nar .char (i32 v) = i32 v) (h0 : 0 ≤ i) (h1 : i < (n : Int)) (hd : decode M.2.1 pc = .ok (.castore, 1)) (kk : RJ M mc ms n0 Q ce sl sh (pc + 1) ls st (up2 g c i.toNat v) z r) : RJ M mc ms n0 Q ce sl sh pc ls (vI v :: vI i :: vR (some c) :: st) g z r := by
  intro p l e s m args below meth cd dC dI cy ad0 ad adK adV A H locs Ls hC hn hd0 hst hW hS hO hl hs hL
  have hx := hC.1
  have hb := hC.2.1
  have hi : inI i := okx (okt hs)
  have ev : vp_nar .char (i32 v) = i32 v := h01
  refine va_cast hx hb hW.2.2 hW.1 hW.2.1 hS c 1 (by rw [wd_get hs0, ce_i 14 (by decide)]) rfl (vp_inI hi h0 h1) hd (fun H1 locs1 hP1 hD1 hS1 => ?_)
  have hset : (wd cy ad sh g z r).set c (ad c, .inl (cy 14, n, .inl (upd (fun j => i32 (g c j)) (i32 i).toNatClampNeg (vp_nar .char (i32 v))))) = wd cy ad sh (up2 g c i.toNat v) z r := wd_set hs0 (by rw [ce_i 14 (by decide), i32_clamp hi, ev, upd_i]) (fun c' h' => ⟨up2_ne h', rfl, rfl⟩)
  rw [hset] at hP1 hD1
  exact kk p l e s m args below meth cd dC dI cy ad0 ad adK adV A H1 locs1 Ls hC hn hd0 hst ⟨hP1, hD1, hW.2.2⟩ hS1 ⟨up2_in hO.1 (okx hs), hO.2⟩ hl (okt (okt (okt hs))) hL
theorem R_last {c n : Nat} {i v : Int} (hs0 : sh[c]? = some (16, n)) (h0 : 0 ≤ i) (h1 : i < (n : Int)) (hd : decode M.2.1 pc = .ok (.lastore, 1)) (kk : RJ M mc ms n0 Q ce sl sh (pc + 1) ls st g (up2 z c i.toNat v) r) : RJ M mc ms n0 Q ce sl sh pc ls (vL v :: vI i :: vR (some c) :: st) g z r := by
  intro p l e s m args below meth cd dC dI cy ad0 ad adK adV A H locs Ls hC hn hd0 hst hW hS hO hl hs hL
  have hx := hC.1
  have hb := hC.2.1
  have hi : inI i := okx (okt hs)
  refine va_last hx hb hW.2.2 hW.1 hW.2.1 hS c 3 (by rw [wd_get hs0, ce_l]) rfl (vp_inI hi h0 h1) hd (fun H1 locs1 hP1 hD1 hS1 => ?_)
  have hset : (wd cy ad sh g z r).set c (ad c, .inl (cy 16, n, .inr (.inl (vp_updL (fun j => i64 (z c j)) (i32 i).toNatClampNeg (i64 v))))) = wd cy ad sh g (up2 z c i.toNat v) r := wd_set hs0 (by rw [ce_l, i32_clamp hi]; congr 5; funext j; by_cases hj : j = i.toNat; (subst hj; simp [vp_updL, up2]); simp [vp_updL, up2, hj]) (fun c' h' => ⟨rfl, up2_ne h', rfl⟩)
  rw [hset] at hP1 hD1
  exact kk p l e s m args below meth cd dC dI cy ad0 ad adK adV A H1 locs1 Ls hC hn hd0 hst ⟨hP1, hD1, hW.2.2⟩ hS1 ⟨hO.1, up2_inL hO.2.1 (okx hs), hO.2.2⟩ hl (okt (okt (okt hs))) hL
theorem R_aast {c n v n2 : Nat} {i : Int} (hs0 : sh[c]? = some (18, n)) (hs1 : sh[v]? = some (2, n2)) (h0 : 0 ≤ i) (h1 : i < (n : Int)) (hd : decode M.2.1 pc = .ok (.aastore, 1)) (kk : RJ M mc ms n0 Q ce sl sh (pc + 1) ls st g z (upR r c i.toNat (some v))) : RJ M mc ms n0 Q ce sl sh pc ls (vR (some v) :: vI i :: vR (some c) :: st) g z r := by
  intro p l e s m args below meth cd dC dI cy ad0 ad adK adV A H locs Ls hC hn hd0 hst hW hS hO hl hs hL
  have hx := hC.1
  have hb := hC.2.1
  have hi : inI i := okx (okt hs)
  refine va_astq hx hb hW.2.2 hW.1 hW.2.1 hS c 5 v 2 (by rw [wd_get hs0, ce_q]) rfl (by rw [wd_get hs1, ce_obj (by decide)]) rfl (vp_inI hi h0 h1) hd (fun H1 locs1 hP1 hD1 hS1 => ?_)
  have hset : (wd cy ad sh g z r).set c (ad c, .inl (cy 18, n, .inr (.inr (.inr (.inr (va_up (fun j => (r c j).map ad) (i32 i).toNatClampNeg (some (ad v)))))))) = wd cy ad sh g z (upR r c i.toNat (some v)) := wd_set hs0 (by rw [ce_q, i32_clamp hi]; congr 7; funext j; by_cases hj : j = i.toNat; (subst hj; simp [va_up, upR]); simp [va_up, upR, hj]) (fun c' h' => ⟨rfl, rfl, upR_ne h'⟩)
  rw [hset] at hP1 hD1
  exact kk p l e s m args below meth cd dC dI cy ad0 ad adK adV A H1 locs1 Ls hC hn hd0 hst ⟨hP1, hD1, hW.2.2⟩ hS1 ⟨hO.1, hO.2.1, fun c1 k1 a1 h1 => by unfold upR at h1; split at h1; exact okx hs a1 h1; exact hO.2.2 c1 k1 a1 h1⟩ hl (okt (okt (okt hs))) hL
theorem R_alen15 {c n : Nat} (hs0 : sh[c]? = some (15, n)) (hn0 : n < 2147483648) (hd : decode M.2.1 pc = .ok (.arraylength, 1)) (kk : RJ M mc ms n0 Q ce sl sh (pc + 1) ls (vI (n : Int) :: st) g z r) : RJ M mc ms n0 Q ce sl sh pc ls (vR (some c) :: st) g z r := by
  intro p l e s m args below meth cd dC dI cy ad0 ad adK adV A H locs Ls hC hn hd0 hst hW hS hO hl hs hL
  have hx := hC.1
  have hb := hC.2.1
  exact va_alen hx hb hW.2.2 hW.1 c 2 (by rw [wd_get hs0, ce_i 15 (by decide)]) rfl (v := i32 (n : Int)) (by rw [i32, Int32.ofInt_eq_ofNat]) hd (kk p l e s m args below meth cd dC dI cy ad0 ad adK adV A H locs Ls hC hn hd0 hst hW hS hO hl (okc (v := vI (n : Int)) (show inI (n : Int) by unfold inI; omega) (okt hs)) hL)
theorem R_alen18 {c n : Nat} (hs0 : sh[c]? = some (18, n)) (hn0 : n < 2147483648) (hd : decode M.2.1 pc = .ok (.arraylength, 1)) (kk : RJ M mc ms n0 Q ce sl sh (pc + 1) ls (vI (n : Int) :: st) g z r) : RJ M mc ms n0 Q ce sl sh pc ls (vR (some c) :: st) g z r := by
  intro p l e s m args below meth cd dC dI cy ad0 ad adK adV A H locs Ls hC hn hd0 hst hW hS hO hl hs hL
  have hx := hC.1
  have hb := hC.2.1
  exact va_alen hx hb hW.2.2 hW.1 c 5 (by rw [wd_get hs0, ce_q]) rfl (v := i32 (n : Int)) (by rw [i32, Int32.ofInt_eq_ofNat]) hd (kk p l e s m args below meth cd dC dI cy ad0 ad adK adV A H locs Ls hC hn hd0 hst hW hS hO hl (okc (v := vI (n : Int)) (show inI (n : Int) by unfold inI; omega) (okt hs)) hL)
theorem R_alen13 {c n : Nat} (hs0 : sh[c]? = some (13, n)) (hn0 : n < 2147483648) (hd : decode M.2.1 pc = .ok (.arraylength, 1)) (kk : RJ M mc ms n0 Q ce sl sh (pc + 1) ls (vI (n : Int) :: st) g z r) : RJ M mc ms n0 Q ce sl sh pc ls (vR (some c) :: st) g z r := by
  intro p l e s m args below meth cd dC dI cy ad0 ad adK adV A H locs Ls hC hn hd0 hst hW hS hO hl hs hL
  have hx := hC.1
  have hb := hC.2.1
  exact va_alen hx hb hW.2.2 hW.1 c 0 (by rw [wd_get hs0, ce_i 13 (by decide)]) rfl (v := i32 (n : Int)) (by rw [i32, Int32.ofInt_eq_ofNat]) hd (kk p l e s m args below meth cd dC dI cy ad0 ad adK adV A H locs Ls hC hn hd0 hst hW hS hO hl (okc (v := vI (n : Int)) (show inI (n : Int) by unfold inI; omega) (okt hs)) hL)
theorem R_ireturn {v : Int} {ty : FieldType} (hr0 : M.2.2.2.1 = some ty) (hnr : narrow ty (.int (i32 v)) = .int (i32 v)) (hce : ce ≤ mc) (hsl : sl ≤ ms) (hd : decode M.2.1 pc = .ok (.ireturn, 1)) (hq : Q (some (vI v)) sh g z r) : RJ M mc ms n0 Q ce sl sh pc ls [vI v] g z r := by
  intro p l e s m args below meth cd dC dI cy ad0 ad adK adV A H locs Ls hC hn hd0 hst hW hS hO hl hs hL
  have hx := hC.1
  have hb := hC.2.1
  refine W.widen (k := mc) (n := ms) hce hsl ?_
  exact W.zret (ty := ty) hx hb (hC.2.2.2.1.trans hr0) hnr (fun t ht hWm => ⟨⟨some (vI v), sh, ad, g, z, r, rfl, hq, hn, hd0, hO, (fun x hx => by cases hx; exact okx hs), by rw [ht]; exact hW.1, hW.2.1, va_K.moved hWm.alike hW.2.2⟩, hS.F ht⟩) hS.2.2 hd hC.2.2.2.2.1
theorem R_lreturn {v : Int} (hr0 : M.2.2.2.1 = some .long) (hce : ce ≤ mc) (hsl : sl ≤ ms) (hd : decode M.2.1 pc = .ok (.lreturn, 1)) (hq : Q (some (vL v)) sh g z r) : RJ M mc ms n0 Q ce sl sh pc ls [vL v] g z r := by
  intro p l e s m args below meth cd dC dI cy ad0 ad adK adV A H locs Ls hC hn hd0 hst hW hS hO hl hs hL
  have hx := hC.1
  have hb := hC.2.1
  refine W.widen (k := mc) (n := ms) hce hsl ?_
  exact W.lret hx hb (hC.2.2.2.1.trans hr0) (fun t ht hWm => ⟨⟨some (vL v), sh, ad, g, z, r, rfl, hq, hn, hd0, hO, (fun x hx => by cases hx; exact okx hs), by rw [ht]; exact hW.1, hW.2.1, va_K.moved hWm.alike hW.2.2⟩, hS.F ht⟩) hS.2.2 hd hC.2.2.2.2.1
theorem R_areturn {v : Option Nat} {ty : FieldType} (hr0 : M.2.2.2.1 = some ty) (hty : (∃ n, ty = .object n) ∨ ∃ t, ty = .array t) (hce : ce ≤ mc) (hsl : sl ≤ ms) (hd : decode M.2.1 pc = .ok (.areturn, 1)) (hq : Q (some (vR v)) sh g z r) : RJ M mc ms n0 Q ce sl sh pc ls [vR v] g z r := by
  intro p l e s m args below meth cd dC dI cy ad0 ad adK adV A H locs Ls hC hn hd0 hst hW hS hO hl hs hL
  have hx := hC.1
  have hb := hC.2.1
  refine W.widen (k := mc) (n := ms) hce hsl ?_
  exact W.aret (v := cv ad (vR v)) hx hb (hC.2.2.2.1.trans hr0) hty (by cases v with | none => exact Or.inl rfl | some a => exact Or.inr ⟨ad a, rfl⟩) (fun t ht hWm => ⟨⟨some (vR v), sh, ad, g, z, r, rfl, hq, hn, hd0, hO, (fun x hx => by cases hx; exact okx hs), by rw [ht]; exact hW.1, hW.2.1, va_K.moved hWm.alike hW.2.2⟩, hS.F ht⟩) hS.2.2 hd hC.2.2.2.2.1
theorem R_return (hr0 : M.2.2.2.1 = none) (hce : ce ≤ mc) (hsl : sl ≤ ms) (hd : decode M.2.1 pc = .ok (.return_, 1)) (hq : Q none sh g z r) : RJ M mc ms n0 Q ce sl sh pc ls [] g z r := by
  intro p l e s m args below meth cd dC dI cy ad0 ad adK adV A H locs Ls hC hn hd0 hst hW hS hO hl hs hL
  have hx := hC.1
  have hb := hC.2.1
  refine W.widen (k := mc) (n := ms) hce hsl ?_
  exact W.vret hx hb (hC.2.2.2.1.trans hr0) (fun t ht hWm => ⟨⟨none, sh, ad, g, z, r, rfl, hq, hn, hd0, hO, (fun x hx => by cases hx), by rw [ht]; exact hW.1, hW.2.1, va_K.moved hWm.alike hW.2.2⟩, hS.F ht⟩) hS.2.2 hd hC.2.2.2.2.1
theorem kOc : (Cond.code Lib.objectInit ⟨#[0xb1]⟩ 1 none) ∈ TB := TB_mem 112 (by decide +kernel) (by decide +kernel)
theorem kOi : (Cond.instanceMethod Lib.objectInit) ∈ TB := TB_mem 111 (by decide +kernel) (by decide +kernel)
theorem R_objInit {idx c : Nat} (hk : Cond.methodLink M.1.cls idx Lib.objectInit ∈ TB) (hf : 1 ≤ M.2.2.2.2.frames) (hl0 : 12 ≤ M.2.2.2.2.locals) (hd : decode M.2.1 pc = .ok (.invokespecial idx, 3)) (kk : RJ M mc ms n0 Q ce sl sh (pc + 3) ls [] g z r) : RJ M mc ms n0 Q ce sl sh pc ls [vR (some c)] g z r := by
  intro p l e s m args below meth cd dC dI cy ad0 ad adK adV A H locs Ls hC hn hd0 hst hW hS hO hl hs hL
  have hx := hC.1
  have hb := hC.2.1
  refine W.objInit hx hb hC.2.2.2.2.2.1 (hC.2.2.2.2.2.2.2.1 _ hk) (hC.2.2.2.2.2.2.2.1 _ kOi) (hC.2.2.2.2.2.2.2.1 _ kOc) rfl (by rw [hC.2.2.1]; exact hL.1) (a := ad c) (rest := []) rfl hd hf hl0 ?_
  exact kk p l e s m args below meth cd dC dI cy ad0 ad adK adV A H locs Ls hC hn hd0 hst hW hS hO hl (okt hs) hL
theorem R_ldcS {index i : Nat} {tx : String} (hi : i < 6) (hz : ∀ adK U, Sr adK U → vk_R M.1.cls index tx (adK i) U) (hd : decode M.2.1 pc = .ok (.ldc index, 2)) (kk : RJ M mc ms n0 Q ce sl sh (pc + 2) ls (vR (some (100000 + i)) :: st) g z r) : RJ M mc ms n0 Q ce sl sh pc ls st g z r := by
  intro p l e s m args below meth cd dC dI cy ad0 ad adK adV A H locs Ls hC hn hd0 hst hW hS hO hl hs hL
  have hx := hC.1
  have hb := hC.2.1
  have h := kk p l e s m args below meth cd dC dI cy ad0 ad adK adV A H locs Ls hC hn hd0 hst hW hS hO hl (okc (v := vR (some (100000 + i))) (fun a h => by cases h; right; omega) hs) hL
  rw [List.map_cons, show cv ad (vR (some (100000 + i))) = .ref (ad (100000 + i)) from rfl, hst i hi] at h
  exact va_ldcS hx hb hC.2.2.2.2.2.1 (hz adK s hC.2.2.2.2.2.2.2.2.1.2) hd h
end HEAP
end
section
section CALLS
def entL (av : List AV) : List (Option AV) := av.flatMap fun v => match v with
  | .inr (.inl _) => [some v, none]
  | _ => [some v]
def PC (dC : Nat → ClassId) (dI : Nat → Nat → Nat) (cy : Nat → ClassId) (ad adK adV : Nat → Nat) (sh : SH) (g z : GG) (r : RR) (sz : Nat) (av : List AV) : Array Value → State → Prop :=
  va_Pc (av.map (cv ad)) (fun U => U.heap.size = sz ∧ va_P (dC, dI) vwCl (wd cy ad sh g z r) U.heap ∧ va_K (dC, dI) vwCl (tyL cy) U ∧ va_D (fun _ => True) (wd cy ad sh g z r) ∧ Sx adK adV (va_A (wd cy ad sh g z r) sz) U U.heap)
/-- M's contract: from the world sh, g, z, r and the arguments av it returns, with Q -/
def CT (M : MI) (mc ms : Nat) (sh : SH) (av : List AV) (g z : GG) (r : RR) (Q : PQ) : Prop :=
  ∀ (l : Launch) (dC : Nat → ClassId) (dI : Nat → Nat → Nat) (cy : Nat → ClassId) (ad adK adV : Nat → Nat) (sz : Nat), (∀ i, i < 6 → ad (100000 + i) = adK i) → okh sh.length g z r → (∀ v ∈ av, okv sh.length v) →
    Met l M.1 (Cond.code M.1 M.2.1 M.2.2.1 M.2.2.2.1 :: TB) M.2.2.2.2 (PC dC dI cy ad adK adV sh g z r sz av) (QC ad sh.length dC dI cy (va_A (wd cy ad sh g z r) sz) Q) mc ms (va_A (wd cy ad sh g z r) sz)
theorem cv_isL {ad : Nat → Nat} {x : Int} : (cv ad (vL x)).category = 2 := rfl
theorem lv_args_app (j : Nat) (a b : List Value) : lv_args j (a ++ b) = lv_args j a ++ lv_args (j + (lg_sl a).length) b := by
  induction a generalizing j with
  | nil => simp [lv_args, lg_sl]
  | cons v t ih =>
    simp only [List.cons_append, lv_args, ih, lg_sl, List.flatMap_cons, List.length_append]
    by_cases h : v.category = 2
    · simp [h]; congr 1; omega
    · simp [h]; congr 1; omega
theorem entL_get {ad : Nat → Nat} (av : List AV) : ∀ (j i : Nat) (v : AV), (entL av)[i]? = some (some v) → (j + i, cv ad v) ∈ lv_args j (av.map (cv ad)) := by
  induction av with
  | nil => intro j i v h; simp [entL] at h
  | cons u t ih =>
    intro j i v h
    by_cases hu : ∃ x, u = vL x
    · obtain ⟨x, rfl⟩ := hu
      have e : entL (vL x :: t) = some (vL x) :: none :: entL t := rfl
      rw [e] at h
      rw [List.map_cons, lv_args, if_pos cv_isL]
      match i, h with
      | 0, h => simp at h; subst h; exact List.mem_cons_self
      | 1, h => simp at h
      | k + 2, h =>
        have := ih (j + 2) k v (by simpa using h)
        refine List.mem_cons_of_mem _ ?_
        rw [show j + (k + 2) = j + 2 + k by omega]
        exact this
    · have e : entL (u :: t) = some u :: entL t := by
        match u, hu with
        | .inl _, _ => rfl
        | .inr (.inr _), _ => rfl
        | .inr (.inl x), hu => exact absurd ⟨x, rfl⟩ hu
      have hc : ¬ (cv ad u).category = 2 := fun q => hu (cv_cat q)
      rw [e] at h
      rw [List.map_cons, lv_args, if_neg hc]
      match i, h with
      | 0, h => simp at h; subst h; exact List.mem_cons_self
      | k + 1, h =>
        have := ih (j + 1) k v (by simpa using h)
        refine List.mem_cons_of_mem _ ?_
        rw [show j + (k + 1) = j + 1 + k by omega]
        exact this
theorem entL_len {ad : Nat → Nat} (av : List AV) : (lg_sl (av.map (cv ad))).length = (entL av).length := by
  induction av with
  | nil => rfl
  | cons u t ih =>
    have e1 : lg_sl ((u :: t).map (cv ad)) = (if (cv ad u).category = 2 then [.val (cv ad u), .second] else [.val (cv ad u)]) ++ lg_sl (t.map (cv ad)) := by simp [lg_sl]
    rw [e1, List.length_append, ih]
    by_cases hu : ∃ x, u = vL x
    · obtain ⟨x, rfl⟩ := hu
      rw [if_pos cv_isL]
      have e : entL (vL x :: t) = some (vL x) :: none :: entL t := rfl
      rw [e]; simp; omega
    · have e : entL (u :: t) = some u :: entL t := by
        match u, hu with
        | .inl _, _ => rfl
        | .inr (.inr _), _ => rfl
        | .inr (.inl x), hu => exact absurd ⟨x, rfl⟩ hu
      have hc : ¬ (cv ad u).category = 2 := fun q => hu (cv_cat q)
      rw [e, if_neg hc]; simp; omega
theorem entL_ok {n : Nat} {av : List AV} (h : ∀ v ∈ av, okv n v) : ∀ v, some v ∈ entL av → okv n v := by
  intro v hv
  simp only [entL, List.mem_flatMap] at hv
  obtain ⟨u, hu, hv⟩ := hv
  match u, hu, hv with
  | .inl x, hu, hv => simp at hv; subst hv; exact h _ hu
  | .inr (.inr x), hu, hv => simp at hv; subst hv; exact h _ hu
  | .inr (.inl x), hu, hv => simp at hv; subst hv; exact h _ hu
theorem Sr.calling {adK : Nat → Nat} {U V : State} (hv : V.vm = U.vm) (ha : U.vm.Alike V.vm) (h : Sr adK U) : Sr adK V := by
  obtain ⟨⟨a1, a2, a3, a4, a5, a6, a7, a8⟩, ⟨b1, b2, b3, b4, b5, b6, b7, b8⟩, c⟩ := h
  exact ⟨⟨a1.same hv, a2.same hv, a3.same hv, a4.same hv, a5.same hv, a6.same hv, a7.same hv, a8.same hv⟩, ⟨b1.same rfl hv.symm, b2.same rfl hv.symm, b3.same rfl hv.symm, b4.same rfl hv.symm, b5.same rfl hv.symm, b6.same rfl hv.symm, b7.same rfl hv.symm, b8.same rfl hv.symm⟩, c.moved ha⟩
theorem Sr.warm {adK : Nat → Nat} {U V : State} (hw : U.WarmedH V.vm) (h : Sr adK U) : Sr adK V := by
  obtain ⟨⟨a1, a2, a3, a4, a5, a6, a7, a8⟩, ⟨b1, b2, b3, b4, b5, b6, b7, b8⟩, c⟩ := h
  exact ⟨⟨a1.warm hw, a2.warm hw, a3.warm hw, a4.warm hw, a5.warm hw, a6.warm hw, a7.warm hw, a8.warm hw⟩, ⟨b1.warmM hw, b2.warmM hw, b3.warmM hw, b4.warmM hw, b5.warmM hw, b6.warmM hw, b7.warmM hw, b8.warmM hw⟩, c.moved hw.alike⟩
theorem PC.blind {dC : Nat → ClassId} {dI : Nat → Nat → Nat} {cy : Nat → ClassId} {ad adK adV : Nat → Nat} {sh : SH} {g z : GG} {r : RR} {sz : Nat} {av : List AV} : FrameBlind (PC dC dI cy ad adK adV sh g z r sz av) := by
  intro a U g mk q
  obtain ⟨q0, q1, qP, qK, qD, qX, qR⟩ := q
  exact ⟨q0, q1, qP, va_K.moved (u := U) (U := U.calling g mk a) (Vm.Alike.refl U.vm) qK, qD, vk_S.moved (u := U) (U := U.calling g mk a) (Vm.Alike.refl U.vm) qX, qR.calling rfl (Vm.Alike.refl U.vm)⟩
variable {M : MI} {mc ms n0 : Nat} {Q : PQ} {ce sl : Nat} {sh : SH} {pc : Nat} {ls : List (Option AV)} {st : List AV} {g z : GG} {r : RR}
theorem CT.of {av : List AV} (k : Nat) (hpl : plainName M.1.cls = true) (hk : (entL av).length + k = M.2.2.1) (h : RJ M mc ms sh.length Q 0 0 sh 0 (entL av ++ List.replicate k none) [] g z r) : CT M mc ms sh av g z r Q := by
  intro l dC dI cy ad adK adV sz hst hO hav
  refine Met.ofW (cc := M.2.1) (maxL := M.2.2.1) (ret := M.2.2.2.1) hpl rfl ?_
  intro p e s m args below meth cd s₁ B hml hv
  obtain ⟨rfl, hsz, hP, hK, hD0, hX⟩ := hv
  have hts := atoms_spec (ws := Cond.code M.1 M.2.1 M.2.2.1 M.2.2.2.1 :: TB) B.pre
  have hown : s.vm.findClass M.1.cls = some m.cls := findClass_of_methodNamed B.named
  have hin : meth.name = M.1.name := (name_of_methodNamed B.named B.method).1
  subst hsz
  have hD := hD0.self (sz := s.heap.size)
  have hl := lv_entry (av.map (cv ad)) (n := M.2.2.1) (by rw [entL_len]; omega)
  rw [lg_entry_eq]
  refine h p l e s m _ below meth cd dC dI cy ad ad adK adV _ s.heap [] _ ⟨B.exec, B.bytes, hml, B.returns, B.notSynchronized, hown, hin, fun w hw => hts w (List.mem_cons_of_mem _ hw), hX, fun q hq => Or.inr hq⟩ (Nat.le_refl _) (fun _ _ => rfl) hst ⟨hP, hD, hK⟩ va_S.rf hO ?_ (fun v hv => by cases hv) ?_
  · intro v hv
    rcases List.mem_append.mp hv with h1 | h1
    · exact entL_ok hav v h1
    · rw [List.mem_replicate] at h1; exact absurd h1.2 (by simp)
  · refine ⟨hl.1, hl.2.1, fun q hq => hl.2.2 q ?_⟩
    obtain ⟨i, v, hi, rfl⟩ := lvl_mem.mp hq
    by_cases hlt : i < (entL av).length
    · rw [List.getElem?_append_left hlt] at hi
      have := entL_get (ad := ad) av 0 i v hi
      rw [Nat.zero_add] at this
      exact this
    · rw [List.getElem?_append_right (by omega)] at hi
      have := List.mem_of_getElem? hi
      rw [List.mem_replicate] at this
      exact absurd this.2 (by simp)
theorem CT.weaken {av : List AV} {Q' : PQ} (h : CT M mc ms sh av g z r Q) (hq : ∀ v sh' g' z' r', Q v sh' g' z' r' → Q' v sh' g' z' r') : CT M mc ms sh av g z r Q' := by
  intro l dC dI cy ad adK adV sz hst hO hav p e h1 h2 h3 s m args below h4 h5 h6 h7
  obtain ⟨k, o, a1, a2, a3, ⟨⟨v, sh', ad', g', z', r', b1, b2, b3⟩, b4⟩, b5⟩ := h l dC dI cy ad adK adV sz hst hO hav p e h1 h2 h3 s m args below h4 h5 h6 h7
  exact ⟨k, o, a1, a2, a3, ⟨⟨v, sh', ad', g', z', r', b1, hq _ _ _ _ _ b2, b3⟩, b4⟩, b5⟩
end CALLS
end
section
section CALL2
variable {M : MI} {mc ms n0 : Nat} {Q : PQ} {ce sl : Nat} {sh : SH} {pc : Nat} {ls : List (Option AV)} {st : List AV} {g z : GG} {r : RR}
theorem run_go {p : Program} {l : Launch} {e : Env} {s : State} {m : MethodId} {args : Array Value} {below : List Frame} {meth : Method} {cd : Code} {dC : Nat → ClassId} {dI : Nat → Nat → Nat} {cy : Nat → ClassId} {ad0 ad adK adV : Nat → Nat} {A : Nat → Prop} {H : Heap} {locs : List Loc} {Ls : Array Slot} {mc' ms' : Nat} {Q' : PQ} {stk : List Value} {a : Array Value}
    (hC : Cx M p s m args meth cd adK adV A) (hn : n0 ≤ sh.length) (hd0 : ∀ a, okr n0 a → ad a = ad0 a) (hst : ∀ i, i < 6 → ad (100000 + i) = adK i) (hW : Wd dC dI cy ad A sh g z r s H) (hS : va_S A s.heap H locs) (hl : ∀ v, some v ∈ ls → okv sh.length v) (hs : ∀ v ∈ st, okv sh.length v) (hL : lv_has Ls M.2.2.1 (lvl ad ls))
    (hrun : va_Run p l e M.2.2.2.2 s m args below meth cd H locs ce sl mc' ms' (F0 m pc Ls stk) (st.map (cv ad)) (QC ad sh.length dC dI cy (va_A (wd cy ad sh g z r) H.size) Q' a) (va_A (wd cy ad sh g z r) H.size))
    (kk : ∀ v sh' g' z' r', Q' v sh' g' z' r' → RJ M mc ms n0 Q (ce + mc') (sl + ms') sh' (pc + 3) ls (v.toList ++ st) g' z' r') :
    W p l e M.2.2.2.2 s m args below meth cd H locs ce sl (MQ below (QC ad0 n0 dC dI cy A Q) args s mc ms A) (F0 m pc Ls stk) := by
  have hsub : ∀ q, va_A (wd cy ad sh g z r) H.size q → A q := by
    intro q hq
    rcases hq with ⟨k, e, hk⟩ | hq
    · exact hW.2.1.2 k _ hk
    · exact hC.2.2.2.2.2.2.2.2.2 q (Nat.le_trans hS.1 hq)
  intro T hT X
  obtain ⟨v, st₀, t, T', L, h0, X', hLL, e1, e2, hq, stp⟩ := hrun T hT X
  obtain ⟨⟨v', sh', ad', g', z', r', hv, hQ, hn', had, hOk, hvok, hP', hD', -⟩, hF1, hF2⟩ := hq
  have hv : v = v'.map (cv ad') := by injection hv
  rw [h0] at hF1 hF2
  have had' : ∀ a, okr n0 a → ad' a = ad0 a := fun a ha => (had a (ha.mono hn)).trans (hd0 a ha)
  have hst' : ∀ i, i < 6 → ad' (100000 + i) = adK i := fun i hi => (had _ (Or.inr (by omega))).trans (hst i hi)
  have hS' : va_S A s.heap T'.heap (locs ++ L) := by
    refine ⟨Nat.le_trans hS.1 (by rw [e1]; exact hF1), fun q h1 h2 => ?_, fun q hq => ?_⟩
    · rw [e1, hF2 q (Nat.lt_of_lt_of_le h1 hS.1) (fun w => h2 (hsub q w))]
      exact hS.2.1 q h1 h2
    · rcases List.mem_append.mp hq with h | h
      · exact hS.2.2 q h
      · exact hsub _ (hLL q h)
  have hlv : lvl ad' ls = lvl ad ls := lvl_ad hl had
  have K := kk v' sh' g' z' r' hQ p l e s m args below meth cd dC dI cy ad0 ad' adK adV A T'.heap (locs ++ L) Ls hC (Nat.le_trans hn hn') had' hst' ⟨by rw [e1]; exact hP', hD'.weaken (fun k q _ h => hsub _ h), hW.2.2⟩ hS' hOk (fun v hv => (hl v hv).mono hn') (by
    intro x hx
    rcases List.mem_append.mp hx with h | h
    · exact hvok x (by simpa using h)
    · exact (hs x h).mono hn') (by rw [hlv]; exact hL)
  obtain ⟨t2, a1, b1⟩ := K T' rfl X'
  refine ⟨t2, stp t2 ?_, b1⟩
  have es : (v'.toList ++ st).map (cv ad') = v.toList ++ st.map (cv ad) := by
    rw [List.map_append, hv]
    congr 1
    · cases v' <;> rfl
    · exact List.map_congr_left fun x hx => cv_eq (hs x hx) had
  rw [es] at a1
  exact a1
def MV (M : MI) (n : Nat) : Prop := Cond.initialized M.1.cls ∈ TB ∧ Cond.code M.1 M.2.1 M.2.2.1 M.2.2.2.1 ∈ TB ∧ (M.1.cls ≠ "java/lang/invoke/MethodHandle" ∧ M.1.cls ≠ "java/lang/invoke/VarHandle" ∧ (parseMethodDescriptor M.1.desc).map (fun d => d.parameters.length) = some n)
def rmOK (M M' : MI) (mc' ms' ce sl : Nat) : Prop := M'.2.2.2.2.cells = mc' ∧ M'.2.2.2.2.slots = ms' ∧ (M'.2.2.2.2.frames + 1 ≤ M.2.2.2.2.frames ∧ 8 + (M'.2.2.1 + 11) + M'.2.2.2.2.locals ≤ M.2.2.2.2.locals) ∧ (ce + mc' ≤ M.2.2.2.2.cells ∧ sl + ms' ≤ M.2.2.2.2.slots)
theorem cat_sum {ad : Nat → Nat} (st : List AV) : ((st.map (cv ad)).map fun v => v.category).sum ≤ 2 * st.length := by
  induction st with
  | nil => simp
  | cons v t ih =>
    have : (cv ad v).category ≤ 2 := by rcases lv_cat (cv ad v) with q | q <;> omega
    simp only [List.map_cons, List.sum_cons, List.length_cons]
    omega
theorem good_TB {M' : MI} (hv : Cond.code M'.1 M'.2.1 M'.2.2.1 M'.2.2.2.1 ∈ TB) : GoodIn TB (Cond.code M'.1 M'.2.1 M'.2.2.1 M'.2.2.2.1 :: TB) := by
  intro w hw
  have : w ∈ TB := by
    rcases List.mem_cons.mp hw with h | h
    · rw [h]; exact hv
    · exact h
  exact ⟨this, good_of_word (TB_good w this)⟩
theorem good_app {ws ws' : List Cond} (h : ∀ w ∈ ws, w ∈ TB) (h' : GoodIn TB ws') : GoodIn TB (ws ++ ws') := by
  intro w hw
  rcases List.mem_append.mp hw with q | q
  · exact ⟨h w q, good_of_word (TB_good w (h w q))⟩
  · exact h' w q
theorem PC.at {p : Program} {s : State} {m : MethodId} {args : Array Value} {meth : Method} {cd : Code} {dC : Nat → ClassId} {dI : Nat → Nat → Nat} {cy : Nat → ClassId} {ad adK adV : Nat → Nat} {A : Nat → Prop} {H : Heap} {locs : List Loc} {av : List AV}
    (hC : Cx M p s m args meth cd adK adV A) (hW : Wd dC dI cy ad A sh g z r s H) (hS : va_S A s.heap H locs) : ∀ U : State, U.heap = H → s.WarmedH U.vm → PC dC dI cy ad adK adV sh g z r H.size av (av.map (cv ad)).toArray U := by
  intro U hU hWm
  have hsub : ∀ q, va_A (wd cy ad sh g z r) H.size q → A q := by
    intro q hq
    rcases hq with ⟨k, e, hk⟩ | hq
    · exact hW.2.1.2 k _ hk
    · exact hC.2.2.2.2.2.2.2.2.2 q (Nat.le_trans hS.1 hq)
  refine ⟨rfl, by rw [hU], by rw [hU]; exact hW.1, va_K.moved hWm.alike hW.2.2, hW.2.1.weaken (fun _ _ _ _ => trivial), ?_, hC.2.2.2.2.2.2.2.2.1.2.warm hWm⟩
  rw [hU]
  exact ((hC.2.2.2.2.2.2.2.2.1.1.kept (fun q h1 h2 => hS.2.1 q h1 h2)).narrow hsub).moved hWm.alike
theorem R_callV {M' : MI} {mc' ms' : Nat} {Q' : PQ} {as : List AV} {c ci n2 index : Nat} {T : u_T} {N : Nat} (hct : CT M' mc' ms' sh (vR (some c) :: as) g z r Q') (hv : MV M' as.length) (hi : Cond.instanceMethod M'.1 ∈ TB) (hse : Cond.selects M'.1.cls M'.1 M'.1 ∈ TB) (hk : Cond.methodLink M.1.cls index M'.1 ∈ TB) (hs0 : sh[c]? = some (ci, n2)) (hc : vwCl[ci]? = some (M'.1.cls, T, N)) (hci : ci < 13) (hrm : rmOK M M' mc' ms' ce sl) (hst4 : st.length ≤ 4) (hd : decode M.2.1 pc = .ok (.invokevirtual index, 3))
    (kk : ∀ v sh' g' z' r', Q' v sh' g' z' r' → RJ M mc ms n0 Q (ce + mc') (sl + ms') sh' (pc + 3) ls (v.toList ++ st) g' z' r') : RJ M mc ms n0 Q ce sl sh pc ls (as.reverse ++ vR (some c) :: st) g z r := by
  intro p l e s m args below meth cd dC dI cy ad0 ad adK adV A H locs Ls hC hn hd0 hst hW hS hO hl hs hL
  have hs1 : ∀ v ∈ st, okv sh.length v := fun v h => hs v (List.mem_append_right _ (List.mem_cons_of_mem _ h))
  have hs2 : ∀ v ∈ vR (some c) :: as, okv sh.length v := fun v h => by
    rcases List.mem_cons.mp h with q | q
    · rw [q]; exact hs _ (List.mem_append_right _ List.mem_cons_self)
    · exact hs v (List.mem_append_left _ (List.mem_reverse.mpr q))
  have hM := hct l dC dI cy ad adK adV H.size hst hO hs2
  refine run_go hC hn hd0 hst hW hS hl hs1 hL (va_runV (bytes := M'.2.1) (maxL := M'.2.2.1) (ret := M'.2.2.2.1) (As := as.map (cv ad)) (b := ad c) (C := M'.1.cls) (n := as.length) ⟨hC.1, hC.2.1, hC.2.2.1, hC.2.2.2.2.2.1, hC.2.2.2.2.2.2.2.1⟩ hM ?_ ⟨PC.blind, va_recv hW.2.2 hW.1 hc (by rw [wd_get hs0, ce_obj hci]), PC.at hC hW hS⟩ rfl (by rw [List.length_map]) hL.1 ?_ ?_ hd hrm.2.2.2) kk
  · refine cwV as.length hC.2.2.2.2.2.2.2.1 (good_app (fun w hw => ?_) (good_TB hv.2.1)) rfl hrm.1 hrm.2.1 ⟨rfl, hv.2.2⟩ hrm.2.2.1
    simp only [List.mem_cons, List.not_mem_nil, or_false] at hw
    rcases hw with rfl | rfl | rfl | rfl
    · exact hk
    · exact hi
    · exact hse
    · exact hv.1
  · simp only [List.map_append, List.map_cons, List.map_reverse]; rfl
  · exact lv_room (Nat.le_trans (cat_sum st) (by omega))
theorem R_callS {M' : MI} {mc' ms' : Nat} {Q' : PQ} {as : List AV} {index : Nat} (hct : CT M' mc' ms' sh as g z r Q') (hv : MV M' as.length) (hi : Cond.static M'.1 ∈ TB) (hk : Cond.methodLink M.1.cls index M'.1 ∈ TB) (hrm : rmOK M M' mc' ms' ce sl) (hst4 : st.length ≤ 4) (hd : decode M.2.1 pc = .ok (.invokestatic index, 3))
    (kk : ∀ v sh' g' z' r', Q' v sh' g' z' r' → RJ M mc ms n0 Q (ce + mc') (sl + ms') sh' (pc + 3) ls (v.toList ++ st) g' z' r') : RJ M mc ms n0 Q ce sl sh pc ls (as.reverse ++ st) g z r := by
  intro p l e s m args below meth cd dC dI cy ad0 ad adK adV A H locs Ls hC hn hd0 hst hW hS hO hl hs hL
  have hs1 : ∀ v ∈ st, okv sh.length v := fun v h => hs v (List.mem_append_right _ h)
  have hs2 : ∀ v ∈ as, okv sh.length v := fun v h => hs v (List.mem_append_left _ (List.mem_reverse.mpr h))
  have hM := hct l dC dI cy ad adK adV H.size hst hO hs2
  refine run_go hC hn hd0 hst hW hS hl hs1 hL (va_runS (bytes := M'.2.1) (maxL := M'.2.2.1) (ret := M'.2.2.2.1) (As := as.map (cv ad)) (n := as.length) ⟨hC.1, hC.2.1, hC.2.2.1, hC.2.2.2.2.2.1, hC.2.2.2.2.2.2.2.1⟩ hM ?_ ⟨PC.blind, PC.at hC hW hS⟩ rfl (by rw [List.length_map]) hL.1 ?_ ?_ hd hrm.2.2.2) kk
  · refine va_cwS as.length hC.2.2.2.2.2.2.2.1 (good_app (fun w hw => ?_) (good_TB hv.2.1)) rfl hrm.1 hrm.2.1 hv.2.2 hrm.2.2.1
    simp only [List.mem_cons, List.not_mem_nil, or_false] at hw
    rcases hw with rfl | rfl | rfl
    · exact hk
    · exact hi
    · exact hv.1
  · simp only [List.map_append, List.map_reverse]
  · exact lv_room (Nat.le_trans (cat_sum st) (by omega))
theorem R_callI {M' : MI} {mc' ms' : Nat} {Q' : PQ} {as : List AV} {c index : Nat} (hct : CT M' mc' ms' sh (vR (some c) :: as) g z r Q') (hv : MV M' as.length) (hr0 : M'.2.2.2.1 = none) (hnm : M'.1.name = "<init>") (hi : Cond.instanceMethod M'.1 ∈ TB) (hk : Cond.methodLink M.1.cls index M'.1 ∈ TB) (hrm : rmOK M M' mc' ms' ce sl) (hst4 : st.length ≤ 4) (hd : decode M.2.1 pc = .ok (.invokespecial index, 3))
    (kk : ∀ v sh' g' z' r', Q' v sh' g' z' r' → RJ M mc ms n0 Q (ce + mc') (sl + ms') sh' (pc + 3) ls (v.toList ++ st) g' z' r') : RJ M mc ms n0 Q ce sl sh pc ls (as.reverse ++ vR (some c) :: st) g z r := by
  intro p l e s m args below meth cd dC dI cy ad0 ad adK adV A H locs Ls hC hn hd0 hst hW hS hO hl hs hL
  have hs1 : ∀ v ∈ st, okv sh.length v := fun v h => hs v (List.mem_append_right _ (List.mem_cons_of_mem _ h))
  have hs2 : ∀ v ∈ vR (some c) :: as, okv sh.length v := fun v h => by
    rcases List.mem_cons.mp h with q | q
    · rw [q]; exact hs _ (List.mem_append_right _ List.mem_cons_self)
    · exact hs v (List.mem_append_left _ (List.mem_reverse.mpr q))
  have hM := hct l dC dI cy ad adK adV H.size hst hO hs2
  refine run_go hC hn hd0 hst hW hS hl hs1 hL (va_runI (As := as.map (cv ad)) (b := ad c) (n := as.length) ⟨hC.1, hC.2.1, hC.2.2.1, hC.2.2.2.2.2.1, hC.2.2.2.2.2.2.2.1⟩ hM (bytes := M'.2.1) (maxL := M'.2.2.1) ?_ ⟨PC.blind, PC.at hC hW hS⟩ rfl (by rw [List.length_map]) hL.1 ?_ ?_ hd hrm.2.2.2) kk
  · exact cwI as.length hC.2.2.2.2.2.2.2.1 (good_TB hv.2.1) (by rw [hr0]) hrm.1 hrm.2.1 (hC.2.2.2.2.2.2.2.1 _ hv.1) (hC.2.2.2.2.2.2.2.1 _ hk) (hC.2.2.2.2.2.2.2.1 _ hi) hnm hv.2.2 hrm.2.2.1
  · simp only [List.map_append, List.map_cons, List.map_reverse]; rfl
  · exact lv_room (Nat.le_trans (cat_sum st) (by omega))
theorem R_callN {M' : MI} {mc' ms' : Nat} {Q' : PQ} {as : List AV} {c index : Nat} {host : String} (hct : CT M' mc' ms' sh (vR (some c) :: as) g z r Q') (hv : MV M' as.length) (hr0 : M'.2.2.2.1 = none) (hnm : M'.1.name = "<init>") (hi : Cond.instanceMethod M'.1 ∈ TB) (hk : ∀ adK U, Sr adK U → va_Nw (.methodLinkNest M.1.cls index M'.1 host) U) (hrm : rmOK M M' mc' ms' ce sl) (hst4 : st.length ≤ 4) (hd : decode M.2.1 pc = .ok (.invokespecial index, 3))
    (kk : ∀ v sh' g' z' r', Q' v sh' g' z' r' → RJ M mc ms n0 Q (ce + mc') (sl + ms') sh' (pc + 3) ls (v.toList ++ st) g' z' r') : RJ M mc ms n0 Q ce sl sh pc ls (as.reverse ++ vR (some c) :: st) g z r := by
  intro p l e s m args below meth cd dC dI cy ad0 ad adK adV A H locs Ls hC hn hd0 hst hW hS hO hl hs hL
  have hs1 : ∀ v ∈ st, okv sh.length v := fun v h => hs v (List.mem_append_right _ (List.mem_cons_of_mem _ h))
  have hs2 : ∀ v ∈ vR (some c) :: as, okv sh.length v := fun v h => by
    rcases List.mem_cons.mp h with q | q
    · rw [q]; exact hs _ (List.mem_append_right _ List.mem_cons_self)
    · exact hs v (List.mem_append_left _ (List.mem_reverse.mpr q))
  have hM := hct l dC dI cy ad adK adV H.size hst hO hs2
  refine run_go hC hn hd0 hst hW hS hl hs1 hL (va_runIN (As := as.map (cv ad)) (b := ad c) (n := as.length) (host := host) ⟨hC.1, hC.2.1, hC.2.2.1, hC.2.2.2.2.2.1, hC.2.2.2.2.2.2.2.1⟩ hM (bytes := M'.2.1) (maxL := M'.2.2.1) ?_ ⟨PC.blind, PC.at hC hW hS⟩ rfl (by rw [List.length_map]) hL.1 ?_ ?_ hd hrm.2.2.2) kk
  · exact ⟨va_cnB as.length hC.2.2.2.2.2.2.2.1 (good_TB hv.2.1) (by rw [hr0]) hrm.1 hrm.2.1 (hk adK s hC.2.2.2.2.2.2.2.2.1.2) (hC.2.2.2.2.2.2.2.1 _ hv.1) hv.2.2 hrm.2.2.1, hnm, hC.2.2.2.2.2.2.2.1 _ hi⟩
  · simp only [List.map_append, List.map_cons, List.map_reverse]; rfl
  · exact lv_room (Nat.le_trans (cat_sum st) (by omega))
end CALL2
end
