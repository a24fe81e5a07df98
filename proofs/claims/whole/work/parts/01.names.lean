-- ===== PART A: goes FIRST, ahead of the names: the tables' words, and 'selects' of the private methods out of them =====
/-- a private method of a class that the tables say can be made, by its rows of tables_1 -/
def lw_okq (q : MethodName × Nat) : Prop := (q.1.cls ≠ "java/lang/invoke/MethodHandle" ∧ q.1.cls ≠ "java/lang/invoke/VarHandle") ∧ Cond.instantiable q.1.cls q.2 ∈ tables_1 ∧ Cond.privateMethod q.1 ∈ tables_1 ∧ Cond.instanceMethod q.1 ∈ tables_1
theorem lw_p0 : lw_okq (⟨"LastInBox", "error", "(I)I"⟩, 9) := ⟨⟨by decide +kernel, by decide +kernel⟩, List.mem_of_getElem? (i := 21) (by decide +kernel), List.mem_of_getElem? (i := 319) (by decide +kernel), List.mem_of_getElem? (i := 320) (by decide +kernel)⟩
theorem lw_p1 : lw_okq (⟨"LastInBox$Reader", "readLevel", "(II)Z"⟩, 4) := ⟨⟨by decide +kernel, by decide +kernel⟩, List.mem_of_getElem? (i := 222) (by decide +kernel), List.mem_of_getElem? (i := 446) (by decide +kernel), List.mem_of_getElem? (i := 447) (by decide +kernel)⟩
theorem lw_p2 : lw_okq (⟨"LastInBox$Reader", "readUnit", "(I)Z"⟩, 4) := ⟨⟨by decide +kernel, by decide +kernel⟩, List.mem_of_getElem? (i := 222) (by decide +kernel), List.mem_of_getElem? (i := 450) (by decide +kernel), List.mem_of_getElem? (i := 451) (by decide +kernel)⟩
theorem lw_p3 : lw_okq (⟨"LastInBox$Reader", "readNumber", "()Z"⟩, 4) := ⟨⟨by decide +kernel, by decide +kernel⟩, List.mem_of_getElem? (i := 222) (by decide +kernel), List.mem_of_getElem? (i := 461) (by decide +kernel), List.mem_of_getElem? (i := 462) (by decide +kernel)⟩
theorem lw_p4 : lw_okq (⟨"LastInBox$Text", "addCode", "(I)V"⟩, 3) := ⟨⟨by decide +kernel, by decide +kernel⟩, List.mem_of_getElem? (i := 52) (by decide +kernel), List.mem_of_getElem? (i := 469) (by decide +kernel), List.mem_of_getElem? (i := 470) (by decide +kernel)⟩
theorem lw_p5 : lw_okq (⟨"LastInBox$Reader", "readName", "(I)Z"⟩, 4) := ⟨⟨by decide +kernel, by decide +kernel⟩, List.mem_of_getElem? (i := 222) (by decide +kernel), List.mem_of_getElem? (i := 473) (by decide +kernel), List.mem_of_getElem? (i := 474) (by decide +kernel)⟩
theorem lw_p6 : lw_okq (⟨"LastInBox$Reader", "readNot", "(I)Z"⟩, 4) := ⟨⟨by decide +kernel, by decide +kernel⟩, List.mem_of_getElem? (i := 222) (by decide +kernel), List.mem_of_getElem? (i := 565) (by decide +kernel), List.mem_of_getElem? (i := 566) (by decide +kernel)⟩
theorem lw_p7 : lw_okq (⟨"LastInBox$Reader", "readInside", "(I)Z"⟩, 4) := ⟨⟨by decide +kernel, by decide +kernel⟩, List.mem_of_getElem? (i := 222) (by decide +kernel), List.mem_of_getElem? (i := 573) (by decide +kernel), List.mem_of_getElem? (i := 574) (by decide +kernel)⟩
theorem lw_p8 : lw_okq (⟨"LastInBox$Reader", "isSignOf", "(I)Z"⟩, 4) := ⟨⟨by decide +kernel, by decide +kernel⟩, List.mem_of_getElem? (i := 222) (by decide +kernel), List.mem_of_getElem? (i := 577) (by decide +kernel), List.mem_of_getElem? (i := 578) (by decide +kernel)⟩
theorem lw_p9 : lw_okq (⟨"LastInBox", "textOf", "(I)LLastInBox$Text;"⟩, 9) := ⟨⟨by decide +kernel, by decide +kernel⟩, List.mem_of_getElem? (i := 21) (by decide +kernel), List.mem_of_getElem? (i := 585) (by decide +kernel), List.mem_of_getElem? (i := 586) (by decide +kernel)⟩
theorem lw_p10 : lw_okq (⟨"LastInBox", "takeIn", "(I)V"⟩, 9) := ⟨⟨by decide +kernel, by decide +kernel⟩, List.mem_of_getElem? (i := 21) (by decide +kernel), List.mem_of_getElem? (i := 617) (by decide +kernel), List.mem_of_getElem? (i := 618) (by decide +kernel)⟩
theorem lw_p11 : lw_okq (⟨"LastInBox$Change", "fromLatest", "(LLastInBox$Heap;Z)V"⟩, 7) := ⟨⟨by decide +kernel, by decide +kernel⟩, List.mem_of_getElem? (i := 140) (by decide +kernel), List.mem_of_getElem? (i := 626) (by decide +kernel), List.mem_of_getElem? (i := 627) (by decide +kernel)⟩
theorem lw_p12 : lw_okq (⟨"LastInBox$Change", "handOut", "(LLastInBox$Heap;II)V"⟩, 7) := ⟨⟨by decide +kernel, by decide +kernel⟩, List.mem_of_getElem? (i := 140) (by decide +kernel), List.mem_of_getElem? (i := 633) (by decide +kernel), List.mem_of_getElem? (i := 634) (by decide +kernel)⟩
theorem lw_p13 : lw_okq (⟨"LastInBox$Change", "fromFirst", "(LLastInBox$Heap;Z)V"⟩, 7) := ⟨⟨by decide +kernel, by decide +kernel⟩, List.mem_of_getElem? (i := 140) (by decide +kernel), List.mem_of_getElem? (i := 642) (by decide +kernel), List.mem_of_getElem? (i := 643) (by decide +kernel)⟩
theorem lw_p14 : lw_okq (⟨"LastInBox$Change", "greatestFirst", "(LLastInBox$Heap;)V"⟩, 7) := ⟨⟨by decide +kernel, by decide +kernel⟩, List.mem_of_getElem? (i := 140) (by decide +kernel), List.mem_of_getElem? (i := 646) (by decide +kernel), List.mem_of_getElem? (i := 647) (by decide +kernel)⟩
theorem lw_p15 : lw_okq (⟨"LastInBox$Change", "asTold", "(LLastInBox$Heap;)V"⟩, 7) := ⟨⟨by decide +kernel, by decide +kernel⟩, List.mem_of_getElem? (i := 140) (by decide +kernel), List.mem_of_getElem? (i := 655) (by decide +kernel), List.mem_of_getElem? (i := 656) (by decide +kernel)⟩
def lw_privs_1 : List (MethodName × Nat) := [(⟨"LastInBox", "error", "(I)I"⟩, 9), (⟨"LastInBox$Reader", "readLevel", "(II)Z"⟩, 4), (⟨"LastInBox$Reader", "readUnit", "(I)Z"⟩, 4), (⟨"LastInBox$Reader", "readNumber", "()Z"⟩, 4), (⟨"LastInBox$Text", "addCode", "(I)V"⟩, 3), (⟨"LastInBox$Reader", "readName", "(I)Z"⟩, 4), (⟨"LastInBox$Reader", "readNot", "(I)Z"⟩, 4), (⟨"LastInBox$Reader", "readInside", "(I)Z"⟩, 4), (⟨"LastInBox$Reader", "isSignOf", "(I)Z"⟩, 4), (⟨"LastInBox", "textOf", "(I)LLastInBox$Text;"⟩, 9), (⟨"LastInBox", "takeIn", "(I)V"⟩, 9), (⟨"LastInBox$Change", "fromLatest", "(LLastInBox$Heap;Z)V"⟩, 7), (⟨"LastInBox$Change", "handOut", "(LLastInBox$Heap;II)V"⟩, 7), (⟨"LastInBox$Change", "fromFirst", "(LLastInBox$Heap;Z)V"⟩, 7), (⟨"LastInBox$Change", "greatestFirst", "(LLastInBox$Heap;)V"⟩, 7), (⟨"LastInBox$Change", "asTold", "(LLastInBox$Heap;)V"⟩, 7)]
theorem lw_r1 : ∀ q ∈ lw_privs_1, lw_okq q := List.forall_mem_cons.mpr ⟨lw_p0, List.forall_mem_cons.mpr ⟨lw_p1, List.forall_mem_cons.mpr ⟨lw_p2, List.forall_mem_cons.mpr ⟨lw_p3, List.forall_mem_cons.mpr ⟨lw_p4, List.forall_mem_cons.mpr ⟨lw_p5, List.forall_mem_cons.mpr ⟨lw_p6, List.forall_mem_cons.mpr ⟨lw_p7, List.forall_mem_cons.mpr ⟨lw_p8, List.forall_mem_cons.mpr ⟨lw_p9, List.forall_mem_cons.mpr ⟨lw_p10, List.forall_mem_cons.mpr ⟨lw_p11, List.forall_mem_cons.mpr ⟨lw_p12, List.forall_mem_cons.mpr ⟨lw_p13, List.forall_mem_cons.mpr ⟨lw_p14, List.forall_mem_cons.mpr ⟨lw_p15, fun _ h => absurd h List.not_mem_nil⟩⟩⟩⟩⟩⟩⟩⟩⟩⟩⟩⟩⟩⟩⟩⟩
theorem lw_p16 : lw_okq (⟨"LastInBox$Foresight", "gainBy", "(I)I"⟩, 14) := ⟨⟨by decide +kernel, by decide +kernel⟩, List.mem_of_getElem? (i := 168) (by decide +kernel), List.mem_of_getElem? (i := 741) (by decide +kernel), List.mem_of_getElem? (i := 742) (by decide +kernel)⟩
theorem lw_p17 : lw_okq (⟨"LastInBox$Foresight", "likesOf", "(I)I"⟩, 14) := ⟨⟨by decide +kernel, by decide +kernel⟩, List.mem_of_getElem? (i := 168) (by decide +kernel), List.mem_of_getElem? (i := 746) (by decide +kernel), List.mem_of_getElem? (i := 747) (by decide +kernel)⟩
theorem lw_p18 : lw_okq (⟨"LastInBox$Foresight", "getsIn", "(II)Z"⟩, 14) := ⟨⟨by decide +kernel, by decide +kernel⟩, List.mem_of_getElem? (i := 168) (by decide +kernel), List.mem_of_getElem? (i := 765) (by decide +kernel), List.mem_of_getElem? (i := 766) (by decide +kernel)⟩
theorem lw_p19 : lw_okq (⟨"LastInBox$Foresight", "goesRight", "(II)Z"⟩, 14) := ⟨⟨by decide +kernel, by decide +kernel⟩, List.mem_of_getElem? (i := 168) (by decide +kernel), List.mem_of_getElem? (i := 769) (by decide +kernel), List.mem_of_getElem? (i := 770) (by decide +kernel)⟩
theorem lw_p20 : lw_okq (⟨"LastInBox$Foresight", "paysFromPurse", "(II)V"⟩, 14) := ⟨⟨by decide +kernel, by decide +kernel⟩, List.mem_of_getElem? (i := 168) (by decide +kernel), List.mem_of_getElem? (i := 775) (by decide +kernel), List.mem_of_getElem? (i := 776) (by decide +kernel)⟩
theorem lw_p21 : lw_okq (⟨"LastInBox$Foresight", "hasMore", "(I)Z"⟩, 14) := ⟨⟨by decide +kernel, by decide +kernel⟩, List.mem_of_getElem? (i := 168) (by decide +kernel), List.mem_of_getElem? (i := 781) (by decide +kernel), List.mem_of_getElem? (i := 782) (by decide +kernel)⟩
theorem lw_p22 : lw_okq (⟨"LastInBox", "sheetOf", "(I)LLastInBox$Sheet;"⟩, 9) := ⟨⟨by decide +kernel, by decide +kernel⟩, List.mem_of_getElem? (i := 21) (by decide +kernel), List.mem_of_getElem? (i := 789) (by decide +kernel), List.mem_of_getElem? (i := 790) (by decide +kernel)⟩
theorem lw_p23 : lw_okq (⟨"LastInBox$Foresight", "standNext", "(III)V"⟩, 14) := ⟨⟨by decide +kernel, by decide +kernel⟩, List.mem_of_getElem? (i := 168) (by decide +kernel), List.mem_of_getElem? (i := 817) (by decide +kernel), List.mem_of_getElem? (i := 818) (by decide +kernel)⟩
theorem lw_p24 : lw_okq (⟨"LastInBox$Foresight", "allGoRight", "(II)Z"⟩, 14) := ⟨⟨by decide +kernel, by decide +kernel⟩, List.mem_of_getElem? (i := 168) (by decide +kernel), List.mem_of_getElem? (i := 837) (by decide +kernel), List.mem_of_getElem? (i := 838) (by decide +kernel)⟩
theorem lw_p25 : lw_okq (⟨"LastInBox$Foresight", "wrongFrom", "(II)I"⟩, 14) := ⟨⟨by decide +kernel, by decide +kernel⟩, List.mem_of_getElem? (i := 168) (by decide +kernel), List.mem_of_getElem? (i := 853) (by decide +kernel), List.mem_of_getElem? (i := 854) (by decide +kernel)⟩
theorem lw_p26 : lw_okq (⟨"LastInBox$Foresight", "isChange", "(LLastInBox$Sheet;)Z"⟩, 14) := ⟨⟨by decide +kernel, by decide +kernel⟩, List.mem_of_getElem? (i := 168) (by decide +kernel), List.mem_of_getElem? (i := 882) (by decide +kernel), List.mem_of_getElem? (i := 883) (by decide +kernel)⟩
theorem lw_p27 : lw_okq (⟨"LastInBox$Foresight", "fittingFrom", "(LLastInBox$Sheet;II)I"⟩, 14) := ⟨⟨by decide +kernel, by decide +kernel⟩, List.mem_of_getElem? (i := 168) (by decide +kernel), List.mem_of_getElem? (i := 895) (by decide +kernel), List.mem_of_getElem? (i := 896) (by decide +kernel)⟩
theorem lw_p28 : lw_okq (⟨"LastInBox$Voices", "own", "(III)I"⟩, 5) := ⟨⟨by decide +kernel, by decide +kernel⟩, List.mem_of_getElem? (i := 245) (by decide +kernel), List.mem_of_getElem? (i := 911) (by decide +kernel), List.mem_of_getElem? (i := 912) (by decide +kernel)⟩
theorem lw_p29 : lw_okq (⟨"LastInBox$Voices", "work", "(III)I"⟩, 5) := ⟨⟨by decide +kernel, by decide +kernel⟩, List.mem_of_getElem? (i := 245) (by decide +kernel), List.mem_of_getElem? (i := 920) (by decide +kernel), List.mem_of_getElem? (i := 921) (by decide +kernel)⟩
theorem lw_p30 : lw_okq (⟨"LastInBox$Voices", "parts", "(I)I"⟩, 5) := ⟨⟨by decide +kernel, by decide +kernel⟩, List.mem_of_getElem? (i := 245) (by decide +kernel), List.mem_of_getElem? (i := 924) (by decide +kernel), List.mem_of_getElem? (i := 925) (by decide +kernel)⟩
theorem lw_p31 : lw_okq (⟨"LastInBox$Voices", "above", "(IIII)I"⟩, 5) := ⟨⟨by decide +kernel, by decide +kernel⟩, List.mem_of_getElem? (i := 245) (by decide +kernel), List.mem_of_getElem? (i := 928) (by decide +kernel), List.mem_of_getElem? (i := 929) (by decide +kernel)⟩
def lw_privs_2 : List (MethodName × Nat) := [(⟨"LastInBox$Foresight", "gainBy", "(I)I"⟩, 14), (⟨"LastInBox$Foresight", "likesOf", "(I)I"⟩, 14), (⟨"LastInBox$Foresight", "getsIn", "(II)Z"⟩, 14), (⟨"LastInBox$Foresight", "goesRight", "(II)Z"⟩, 14), (⟨"LastInBox$Foresight", "paysFromPurse", "(II)V"⟩, 14), (⟨"LastInBox$Foresight", "hasMore", "(I)Z"⟩, 14), (⟨"LastInBox", "sheetOf", "(I)LLastInBox$Sheet;"⟩, 9), (⟨"LastInBox$Foresight", "standNext", "(III)V"⟩, 14), (⟨"LastInBox$Foresight", "allGoRight", "(II)Z"⟩, 14), (⟨"LastInBox$Foresight", "wrongFrom", "(II)I"⟩, 14), (⟨"LastInBox$Foresight", "isChange", "(LLastInBox$Sheet;)Z"⟩, 14), (⟨"LastInBox$Foresight", "fittingFrom", "(LLastInBox$Sheet;II)I"⟩, 14), (⟨"LastInBox$Voices", "own", "(III)I"⟩, 5), (⟨"LastInBox$Voices", "work", "(III)I"⟩, 5), (⟨"LastInBox$Voices", "parts", "(I)I"⟩, 5), (⟨"LastInBox$Voices", "above", "(IIII)I"⟩, 5)]
theorem lw_r2 : ∀ q ∈ lw_privs_2, lw_okq q := List.forall_mem_cons.mpr ⟨lw_p16, List.forall_mem_cons.mpr ⟨lw_p17, List.forall_mem_cons.mpr ⟨lw_p18, List.forall_mem_cons.mpr ⟨lw_p19, List.forall_mem_cons.mpr ⟨lw_p20, List.forall_mem_cons.mpr ⟨lw_p21, List.forall_mem_cons.mpr ⟨lw_p22, List.forall_mem_cons.mpr ⟨lw_p23, List.forall_mem_cons.mpr ⟨lw_p24, List.forall_mem_cons.mpr ⟨lw_p25, List.forall_mem_cons.mpr ⟨lw_p26, List.forall_mem_cons.mpr ⟨lw_p27, List.forall_mem_cons.mpr ⟨lw_p28, List.forall_mem_cons.mpr ⟨lw_p29, List.forall_mem_cons.mpr ⟨lw_p30, List.forall_mem_cons.mpr ⟨lw_p31, fun _ h => absurd h List.not_mem_nil⟩⟩⟩⟩⟩⟩⟩⟩⟩⟩⟩⟩⟩⟩⟩⟩
theorem lw_p32 : lw_okq (⟨"LastInBox$Voices", "partsAndGives", "(II)I"⟩, 5) := ⟨⟨by decide +kernel, by decide +kernel⟩, List.mem_of_getElem? (i := 245) (by decide +kernel), List.mem_of_getElem? (i := 933) (by decide +kernel), List.mem_of_getElem? (i := 934) (by decide +kernel)⟩
theorem lw_p33 : lw_okq (⟨"LastInBoxModel", "error", "(I)I"⟩, 34) := ⟨⟨by decide +kernel, by decide +kernel⟩, List.mem_of_getElem? (i := 1036) (by decide +kernel), List.mem_of_getElem? (i := 1153) (by decide +kernel), List.mem_of_getElem? (i := 1154) (by decide +kernel)⟩
theorem lw_p34 : lw_okq (⟨"LastInBoxModel", "whole", "()Z"⟩, 34) := ⟨⟨by decide +kernel, by decide +kernel⟩, List.mem_of_getElem? (i := 1036) (by decide +kernel), List.mem_of_getElem? (i := 1163) (by decide +kernel), List.mem_of_getElem? (i := 1164) (by decide +kernel)⟩
theorem lw_p35 : lw_okq (⟨"LastInBoxModel", "both", "()Z"⟩, 34) := ⟨⟨by decide +kernel, by decide +kernel⟩, List.mem_of_getElem? (i := 1036) (by decide +kernel), List.mem_of_getElem? (i := 1167) (by decide +kernel), List.mem_of_getElem? (i := 1168) (by decide +kernel)⟩
theorem lw_p36 : lw_okq (⟨"LastInBoxModel", "compared", "()Z"⟩, 34) := ⟨⟨by decide +kernel, by decide +kernel⟩, List.mem_of_getElem? (i := 1036) (by decide +kernel), List.mem_of_getElem? (i := 1171) (by decide +kernel), List.mem_of_getElem? (i := 1172) (by decide +kernel)⟩
theorem lw_p37 : lw_okq (⟨"LastInBoxModel", "sum", "()Z"⟩, 34) := ⟨⟨by decide +kernel, by decide +kernel⟩, List.mem_of_getElem? (i := 1036) (by decide +kernel), List.mem_of_getElem? (i := 1175) (by decide +kernel), List.mem_of_getElem? (i := 1176) (by decide +kernel)⟩
theorem lw_p38 : lw_okq (⟨"LastInBoxModel", "product", "()Z"⟩, 34) := ⟨⟨by decide +kernel, by decide +kernel⟩, List.mem_of_getElem? (i := 1036) (by decide +kernel), List.mem_of_getElem? (i := 1179) (by decide +kernel), List.mem_of_getElem? (i := 1180) (by decide +kernel)⟩
theorem lw_p39 : lw_okq (⟨"LastInBoxModel", "one", "()Z"⟩, 34) := ⟨⟨by decide +kernel, by decide +kernel⟩, List.mem_of_getElem? (i := 1036) (by decide +kernel), List.mem_of_getElem? (i := 1183) (by decide +kernel), List.mem_of_getElem? (i := 1184) (by decide +kernel)⟩
theorem lw_p40 : lw_okq (⟨"LastInBoxModel", "look", "()I"⟩, 34) := ⟨⟨by decide +kernel, by decide +kernel⟩, List.mem_of_getElem? (i := 1036) (by decide +kernel), List.mem_of_getElem? (i := 1187) (by decide +kernel), List.mem_of_getElem? (i := 1188) (by decide +kernel)⟩
theorem lw_p41 : lw_okq (⟨"LastInBoxModel", "isName", "(I)Z"⟩, 34) := ⟨⟨by decide +kernel, by decide +kernel⟩, List.mem_of_getElem? (i := 1036) (by decide +kernel), List.mem_of_getElem? (i := 1191) (by decide +kernel), List.mem_of_getElem? (i := 1192) (by decide +kernel)⟩
theorem lw_p42 : lw_okq (⟨"LastInBoxModel", "step1", "(II)V"⟩, 34) := ⟨⟨by decide +kernel, by decide +kernel⟩, List.mem_of_getElem? (i := 1036) (by decide +kernel), List.mem_of_getElem? (i := 1195) (by decide +kernel), List.mem_of_getElem? (i := 1196) (by decide +kernel)⟩
theorem lw_p43 : lw_okq (⟨"LastInBoxModel", "opens", "()Z"⟩, 34) := ⟨⟨by decide +kernel, by decide +kernel⟩, List.mem_of_getElem? (i := 1036) (by decide +kernel), List.mem_of_getElem? (i := 1199) (by decide +kernel), List.mem_of_getElem? (i := 1200) (by decide +kernel)⟩
theorem lw_p44 : lw_okq (⟨"LastInBoxModel", "hasText", "(I)Z"⟩, 34) := ⟨⟨by decide +kernel, by decide +kernel⟩, List.mem_of_getElem? (i := 1036) (by decide +kernel), List.mem_of_getElem? (i := 1207) (by decide +kernel), List.mem_of_getElem? (i := 1208) (by decide +kernel)⟩
theorem lw_p45 : lw_okq (⟨"LastInBoxModel", "worthOf", "(I)I"⟩, 34) := ⟨⟨by decide +kernel, by decide +kernel⟩, List.mem_of_getElem? (i := 1036) (by decide +kernel), List.mem_of_getElem? (i := 1218) (by decide +kernel), List.mem_of_getElem? (i := 1219) (by decide +kernel)⟩
theorem lw_p46 : lw_okq (⟨"LastInBoxModel", "heaps", "(II)V"⟩, 34) := ⟨⟨by decide +kernel, by decide +kernel⟩, List.mem_of_getElem? (i := 1036) (by decide +kernel), List.mem_of_getElem? (i := 1241) (by decide +kernel), List.mem_of_getElem? (i := 1242) (by decide +kernel)⟩
theorem lw_p47 : lw_okq (⟨"LastInBoxModel", "heapWorth", "()I"⟩, 34) := ⟨⟨by decide +kernel, by decide +kernel⟩, List.mem_of_getElem? (i := 1036) (by decide +kernel), List.mem_of_getElem? (i := 1249) (by decide +kernel), List.mem_of_getElem? (i := 1250) (by decide +kernel)⟩
def lw_privs_3 : List (MethodName × Nat) := [(⟨"LastInBox$Voices", "partsAndGives", "(II)I"⟩, 5), (⟨"LastInBoxModel", "error", "(I)I"⟩, 34), (⟨"LastInBoxModel", "whole", "()Z"⟩, 34), (⟨"LastInBoxModel", "both", "()Z"⟩, 34), (⟨"LastInBoxModel", "compared", "()Z"⟩, 34), (⟨"LastInBoxModel", "sum", "()Z"⟩, 34), (⟨"LastInBoxModel", "product", "()Z"⟩, 34), (⟨"LastInBoxModel", "one", "()Z"⟩, 34), (⟨"LastInBoxModel", "look", "()I"⟩, 34), (⟨"LastInBoxModel", "isName", "(I)Z"⟩, 34), (⟨"LastInBoxModel", "step1", "(II)V"⟩, 34), (⟨"LastInBoxModel", "opens", "()Z"⟩, 34), (⟨"LastInBoxModel", "hasText", "(I)Z"⟩, 34), (⟨"LastInBoxModel", "worthOf", "(I)I"⟩, 34), (⟨"LastInBoxModel", "heaps", "(II)V"⟩, 34), (⟨"LastInBoxModel", "heapWorth", "()I"⟩, 34)]
theorem lw_r3 : ∀ q ∈ lw_privs_3, lw_okq q := List.forall_mem_cons.mpr ⟨lw_p32, List.forall_mem_cons.mpr ⟨lw_p33, List.forall_mem_cons.mpr ⟨lw_p34, List.forall_mem_cons.mpr ⟨lw_p35, List.forall_mem_cons.mpr ⟨lw_p36, List.forall_mem_cons.mpr ⟨lw_p37, List.forall_mem_cons.mpr ⟨lw_p38, List.forall_mem_cons.mpr ⟨lw_p39, List.forall_mem_cons.mpr ⟨lw_p40, List.forall_mem_cons.mpr ⟨lw_p41, List.forall_mem_cons.mpr ⟨lw_p42, List.forall_mem_cons.mpr ⟨lw_p43, List.forall_mem_cons.mpr ⟨lw_p44, List.forall_mem_cons.mpr ⟨lw_p45, List.forall_mem_cons.mpr ⟨lw_p46, List.forall_mem_cons.mpr ⟨lw_p47, fun _ h => absurd h List.not_mem_nil⟩⟩⟩⟩⟩⟩⟩⟩⟩⟩⟩⟩⟩⟩⟩⟩
theorem lw_p48 : lw_okq (⟨"LastInBoxModel", "isPerson", "(I)Z"⟩, 34) := ⟨⟨by decide +kernel, by decide +kernel⟩, List.mem_of_getElem? (i := 1036) (by decide +kernel), List.mem_of_getElem? (i := 1265) (by decide +kernel), List.mem_of_getElem? (i := 1266) (by decide +kernel)⟩
theorem lw_p49 : lw_okq (⟨"LastInBoxModel", "purse", "(I)I"⟩, 34) := ⟨⟨by decide +kernel, by decide +kernel⟩, List.mem_of_getElem? (i := 1036) (by decide +kernel), List.mem_of_getElem? (i := 1269) (by decide +kernel), List.mem_of_getElem? (i := 1270) (by decide +kernel)⟩
theorem lw_p50 : lw_okq (⟨"LastInBoxModel", "has", "(II)I"⟩, 34) := ⟨⟨by decide +kernel, by decide +kernel⟩, List.mem_of_getElem? (i := 1036) (by decide +kernel), List.mem_of_getElem? (i := 1273) (by decide +kernel), List.mem_of_getElem? (i := 1274) (by decide +kernel)⟩
theorem lw_p51 : lw_okq (⟨"LastInBoxModel", "mayGo", "(II)Z"⟩, 34) := ⟨⟨by decide +kernel, by decide +kernel⟩, List.mem_of_getElem? (i := 1036) (by decide +kernel), List.mem_of_getElem? (i := 1285) (by decide +kernel), List.mem_of_getElem? (i := 1286) (by decide +kernel)⟩
theorem lw_p52 : lw_okq (⟨"LastInBoxModel", "pays", "(I)Z"⟩, 34) := ⟨⟨by decide +kernel, by decide +kernel⟩, List.mem_of_getElem? (i := 1036) (by decide +kernel), List.mem_of_getElem? (i := 1289) (by decide +kernel), List.mem_of_getElem? (i := 1290) (by decide +kernel)⟩
theorem lw_p53 : lw_okq (⟨"LastInBoxModel", "goes", "(II)Z"⟩, 34) := ⟨⟨by decide +kernel, by decide +kernel⟩, List.mem_of_getElem? (i := 1036) (by decide +kernel), List.mem_of_getElem? (i := 1293) (by decide +kernel), List.mem_of_getElem? (i := 1294) (by decide +kernel)⟩
theorem lw_p54 : lw_okq (⟨"LastInBoxModel", "findChange", "(II)V"⟩, 34) := ⟨⟨by decide +kernel, by decide +kernel⟩, List.mem_of_getElem? (i := 1036) (by decide +kernel), List.mem_of_getElem? (i := 1297) (by decide +kernel), List.mem_of_getElem? (i := 1298) (by decide +kernel)⟩
theorem lw_p55 : lw_okq (⟨"LastInBoxModel", "nextPlace", "(I)I"⟩, 34) := ⟨⟨by decide +kernel, by decide +kernel⟩, List.mem_of_getElem? (i := 1036) (by decide +kernel), List.mem_of_getElem? (i := 1301) (by decide +kernel), List.mem_of_getElem? (i := 1302) (by decide +kernel)⟩
theorem lw_p56 : lw_okq (⟨"LastInBoxModel", "worthAt", "(I)I"⟩, 34) := ⟨⟨by decide +kernel, by decide +kernel⟩, List.mem_of_getElem? (i := 1036) (by decide +kernel), List.mem_of_getElem? (i := 1305) (by decide +kernel), List.mem_of_getElem? (i := 1306) (by decide +kernel)⟩
theorem lw_p57 : lw_okq (⟨"LastInBoxModel", "givesTold", "(II)Z"⟩, 34) := ⟨⟨by decide +kernel, by decide +kernel⟩, List.mem_of_getElem? (i := 1036) (by decide +kernel), List.mem_of_getElem? (i := 1309) (by decide +kernel), List.mem_of_getElem? (i := 1310) (by decide +kernel)⟩
theorem lw_p58 : lw_okq (⟨"LastInBoxModel", "worked", "(I)I"⟩, 34) := ⟨⟨by decide +kernel, by decide +kernel⟩, List.mem_of_getElem? (i := 1036) (by decide +kernel), List.mem_of_getElem? (i := 1313) (by decide +kernel), List.mem_of_getElem? (i := 1314) (by decide +kernel)⟩
theorem lw_p59 : lw_okq (⟨"LastInBoxModel", "sortGiven", "(I)I"⟩, 34) := ⟨⟨by decide +kernel, by decide +kernel⟩, List.mem_of_getElem? (i := 1036) (by decide +kernel), List.mem_of_getElem? (i := 1320) (by decide +kernel), List.mem_of_getElem? (i := 1321) (by decide +kernel)⟩
theorem lw_p60 : lw_okq (⟨"LastInBoxModel", "takes", "(I)V"⟩, 34) := ⟨⟨by decide +kernel, by decide +kernel⟩, List.mem_of_getElem? (i := 1036) (by decide +kernel), List.mem_of_getElem? (i := 1327) (by decide +kernel), List.mem_of_getElem? (i := 1328) (by decide +kernel)⟩
theorem lw_p61 : lw_okq (⟨"LastInBoxModel", "strange", "(I)Z"⟩, 34) := ⟨⟨by decide +kernel, by decide +kernel⟩, List.mem_of_getElem? (i := 1036) (by decide +kernel), List.mem_of_getElem? (i := 1335) (by decide +kernel), List.mem_of_getElem? (i := 1336) (by decide +kernel)⟩
theorem lw_p62 : lw_okq (⟨"LastInBoxModel", "draw", "()I"⟩, 34) := ⟨⟨by decide +kernel, by decide +kernel⟩, List.mem_of_getElem? (i := 1036) (by decide +kernel), List.mem_of_getElem? (i := 1343) (by decide +kernel), List.mem_of_getElem? (i := 1344) (by decide +kernel)⟩
theorem lw_p63 : lw_okq (⟨"LastInBoxModel", "likes", "(I)I"⟩, 34) := ⟨⟨by decide +kernel, by decide +kernel⟩, List.mem_of_getElem? (i := 1036) (by decide +kernel), List.mem_of_getElem? (i := 1360) (by decide +kernel), List.mem_of_getElem? (i := 1361) (by decide +kernel)⟩
def lw_privs_4 : List (MethodName × Nat) := [(⟨"LastInBoxModel", "isPerson", "(I)Z"⟩, 34), (⟨"LastInBoxModel", "purse", "(I)I"⟩, 34), (⟨"LastInBoxModel", "has", "(II)I"⟩, 34), (⟨"LastInBoxModel", "mayGo", "(II)Z"⟩, 34), (⟨"LastInBoxModel", "pays", "(I)Z"⟩, 34), (⟨"LastInBoxModel", "goes", "(II)Z"⟩, 34), (⟨"LastInBoxModel", "findChange", "(II)V"⟩, 34), (⟨"LastInBoxModel", "nextPlace", "(I)I"⟩, 34), (⟨"LastInBoxModel", "worthAt", "(I)I"⟩, 34), (⟨"LastInBoxModel", "givesTold", "(II)Z"⟩, 34), (⟨"LastInBoxModel", "worked", "(I)I"⟩, 34), (⟨"LastInBoxModel", "sortGiven", "(I)I"⟩, 34), (⟨"LastInBoxModel", "takes", "(I)V"⟩, 34), (⟨"LastInBoxModel", "strange", "(I)Z"⟩, 34), (⟨"LastInBoxModel", "draw", "()I"⟩, 34), (⟨"LastInBoxModel", "likes", "(I)I"⟩, 34)]
theorem lw_r4 : ∀ q ∈ lw_privs_4, lw_okq q := List.forall_mem_cons.mpr ⟨lw_p48, List.forall_mem_cons.mpr ⟨lw_p49, List.forall_mem_cons.mpr ⟨lw_p50, List.forall_mem_cons.mpr ⟨lw_p51, List.forall_mem_cons.mpr ⟨lw_p52, List.forall_mem_cons.mpr ⟨lw_p53, List.forall_mem_cons.mpr ⟨lw_p54, List.forall_mem_cons.mpr ⟨lw_p55, List.forall_mem_cons.mpr ⟨lw_p56, List.forall_mem_cons.mpr ⟨lw_p57, List.forall_mem_cons.mpr ⟨lw_p58, List.forall_mem_cons.mpr ⟨lw_p59, List.forall_mem_cons.mpr ⟨lw_p60, List.forall_mem_cons.mpr ⟨lw_p61, List.forall_mem_cons.mpr ⟨lw_p62, List.forall_mem_cons.mpr ⟨lw_p63, fun _ h => absurd h List.not_mem_nil⟩⟩⟩⟩⟩⟩⟩⟩⟩⟩⟩⟩⟩⟩⟩⟩
theorem lw_p64 : lw_okq (⟨"LastInBoxModel", "gets", "(IIIII)I"⟩, 34) := ⟨⟨by decide +kernel, by decide +kernel⟩, List.mem_of_getElem? (i := 1036) (by decide +kernel), List.mem_of_getElem? (i := 1368) (by decide +kernel), List.mem_of_getElem? (i := 1369) (by decide +kernel)⟩
theorem lw_p65 : lw_okq (⟨"LastInBoxModel", "layDown", "(I)V"⟩, 34) := ⟨⟨by decide +kernel, by decide +kernel⟩, List.mem_of_getElem? (i := 1036) (by decide +kernel), List.mem_of_getElem? (i := 1372) (by decide +kernel), List.mem_of_getElem? (i := 1373) (by decide +kernel)⟩
theorem lw_p66 : lw_okq (⟨"LastInBoxModel", "layBack", "(I)V"⟩, 34) := ⟨⟨by decide +kernel, by decide +kernel⟩, List.mem_of_getElem? (i := 1036) (by decide +kernel), List.mem_of_getElem? (i := 1376) (by decide +kernel), List.mem_of_getElem? (i := 1377) (by decide +kernel)⟩
theorem lw_p67 : lw_okq (⟨"LastInBoxModel", "findQueue", "(I)V"⟩, 34) := ⟨⟨by decide +kernel, by decide +kernel⟩, List.mem_of_getElem? (i := 1036) (by decide +kernel), List.mem_of_getElem? (i := 1387) (by decide +kernel), List.mem_of_getElem? (i := 1388) (by decide +kernel)⟩
theorem lw_p68 : lw_okq (⟨"LastInBoxModel", "queues", "(III)V"⟩, 34) := ⟨⟨by decide +kernel, by decide +kernel⟩, List.mem_of_getElem? (i := 1036) (by decide +kernel), List.mem_of_getElem? (i := 1391) (by decide +kernel), List.mem_of_getElem? (i := 1392) (by decide +kernel)⟩
theorem lw_p69 : lw_okq (⟨"LastInBoxModel", "allRight", "()Z"⟩, 34) := ⟨⟨by decide +kernel, by decide +kernel⟩, List.mem_of_getElem? (i := 1036) (by decide +kernel), List.mem_of_getElem? (i := 1399) (by decide +kernel), List.mem_of_getElem? (i := 1400) (by decide +kernel)⟩
theorem lw_p70 : lw_okq (⟨"LastInBoxModel", "wrongs", "(IIZ)V"⟩, 34) := ⟨⟨by decide +kernel, by decide +kernel⟩, List.mem_of_getElem? (i := 1036) (by decide +kernel), List.mem_of_getElem? (i := 1407) (by decide +kernel), List.mem_of_getElem? (i := 1408) (by decide +kernel)⟩
theorem lw_p71 : lw_okq (⟨"LastInBoxModel", "tallies", "(III)V"⟩, 34) := ⟨⟨by decide +kernel, by decide +kernel⟩, List.mem_of_getElem? (i := 1036) (by decide +kernel), List.mem_of_getElem? (i := 1426) (by decide +kernel), List.mem_of_getElem? (i := 1427) (by decide +kernel)⟩
theorem lw_p72 : lw_okq (⟨"LastInBoxModel", "dropsAs", "(II)I"⟩, 34) := ⟨⟨by decide +kernel, by decide +kernel⟩, List.mem_of_getElem? (i := 1036) (by decide +kernel), List.mem_of_getElem? (i := 1434) (by decide +kernel), List.mem_of_getElem? (i := 1435) (by decide +kernel)⟩
theorem lw_p73 : lw_okq (⟨"LastInBoxModel", "begins", "(I)V"⟩, 34) := ⟨⟨by decide +kernel, by decide +kernel⟩, List.mem_of_getElem? (i := 1036) (by decide +kernel), List.mem_of_getElem? (i := 1438) (by decide +kernel), List.mem_of_getElem? (i := 1439) (by decide +kernel)⟩
theorem lw_p74 : lw_okq (⟨"LastInBoxModel", "givesAs", "(II)I"⟩, 34) := ⟨⟨by decide +kernel, by decide +kernel⟩, List.mem_of_getElem? (i := 1036) (by decide +kernel), List.mem_of_getElem? (i := 1445) (by decide +kernel), List.mem_of_getElem? (i := 1446) (by decide +kernel)⟩
theorem lw_p75 : lw_okq (⟨"LastInBoxModel", "keepsAs", "(II)I"⟩, 34) := ⟨⟨by decide +kernel, by decide +kernel⟩, List.mem_of_getElem? (i := 1036) (by decide +kernel), List.mem_of_getElem? (i := 1449) (by decide +kernel), List.mem_of_getElem? (i := 1450) (by decide +kernel)⟩
theorem lw_p76 : lw_okq (⟨"LastInBoxModel", "partsAs", "(II)I"⟩, 34) := ⟨⟨by decide +kernel, by decide +kernel⟩, List.mem_of_getElem? (i := 1036) (by decide +kernel), List.mem_of_getElem? (i := 1453) (by decide +kernel), List.mem_of_getElem? (i := 1454) (by decide +kernel)⟩
def lw_privs_5 : List (MethodName × Nat) := [(⟨"LastInBoxModel", "gets", "(IIIII)I"⟩, 34), (⟨"LastInBoxModel", "layDown", "(I)V"⟩, 34), (⟨"LastInBoxModel", "layBack", "(I)V"⟩, 34), (⟨"LastInBoxModel", "findQueue", "(I)V"⟩, 34), (⟨"LastInBoxModel", "queues", "(III)V"⟩, 34), (⟨"LastInBoxModel", "allRight", "()Z"⟩, 34), (⟨"LastInBoxModel", "wrongs", "(IIZ)V"⟩, 34), (⟨"LastInBoxModel", "tallies", "(III)V"⟩, 34), (⟨"LastInBoxModel", "dropsAs", "(II)I"⟩, 34), (⟨"LastInBoxModel", "begins", "(I)V"⟩, 34), (⟨"LastInBoxModel", "givesAs", "(II)I"⟩, 34), (⟨"LastInBoxModel", "keepsAs", "(II)I"⟩, 34), (⟨"LastInBoxModel", "partsAs", "(II)I"⟩, 34)]
theorem lw_r5 : ∀ q ∈ lw_privs_5, lw_okq q := List.forall_mem_cons.mpr ⟨lw_p64, List.forall_mem_cons.mpr ⟨lw_p65, List.forall_mem_cons.mpr ⟨lw_p66, List.forall_mem_cons.mpr ⟨lw_p67, List.forall_mem_cons.mpr ⟨lw_p68, List.forall_mem_cons.mpr ⟨lw_p69, List.forall_mem_cons.mpr ⟨lw_p70, List.forall_mem_cons.mpr ⟨lw_p71, List.forall_mem_cons.mpr ⟨lw_p72, List.forall_mem_cons.mpr ⟨lw_p73, List.forall_mem_cons.mpr ⟨lw_p74, List.forall_mem_cons.mpr ⟨lw_p75, List.forall_mem_cons.mpr ⟨lw_p76, fun _ h => absurd h List.not_mem_nil⟩⟩⟩⟩⟩⟩⟩⟩⟩⟩⟩⟩⟩
def lw_privs : List (MethodName × Nat) := lw_privs_1 ++ (lw_privs_2 ++ (lw_privs_3 ++ (lw_privs_4 ++ (lw_privs_5))))
def lw_tbl : List Cond := k2_sels lw_privs ++ tables_1
theorem lw_privs_ok : ∀ q ∈ lw_privs, lw_okq q := by
  show ∀ q ∈ lw_privs_1 ++ (lw_privs_2 ++ (lw_privs_3 ++ (lw_privs_4 ++ (lw_privs_5)))), lw_okq q
  exact List.forall_mem_append.mpr ⟨lw_r1, List.forall_mem_append.mpr ⟨lw_r2, List.forall_mem_append.mpr ⟨lw_r3, List.forall_mem_append.mpr ⟨lw_r4, lw_r5⟩⟩⟩⟩
/-! ===== BEGIN printed: names, fields, word lists, decode rows ===== -/
def RX0 : String := "LastInBox$Change"
def TX0 : u_T := fun k => match k with
  | 0 => ("LastInBox$Change", "hall", "LLastInBox$Hall;", true)
  | 1 => ("LastInBox$Change", "coins", "[I", true)
  | 2 => ("LastInBox$Change", "named", "[I", true)
  | 3 => ("LastInBox$Change", "size", "I", false)
  | 4 => ("LastInBox$Change", "sum", "I", false)
  | 5 => ("LastInBox$Change", "marks", "I", false)
  | _ => ("LastInBox$Change", "left", "I", false)
def tyX0 : Nat → FieldType := fun k => match k with
  | 0 => .object "LastInBox$Hall"
  | 1 => .array .int
  | 2 => .array .int
  | 3 => .int
  | 4 => .int
  | 5 => .int
  | _ => .int
abbrev wsX00 : List Cond := u_ws RX0 TX0 7
theorem nmX0 : ∀ a, a < 7 → ∀ b, b < 7 → a ≠ b → (TX0 a).2.1 ≠ (TX0 b).2.1 := by decide +kernel
theorem tyX0_ok : ∀ k, k < 7 → parseFieldDescriptor (TX0 k).2.2.1 = some (tyX0 k) := by decide +kernel
abbrev cX0_init : ByteArray := prog_2_method_1_code
def yX0_init : MethodName := ⟨RX0, "<init>", "(LLastInBox$Hall;)V"⟩
abbrev cX0_size : ByteArray := prog_2_method_2_code
def yX0_size : MethodName := ⟨RX0, "size", "()I"⟩
abbrev cX0_at : ByteArray := prog_2_method_3_code
def yX0_at : MethodName := ⟨RX0, "at", "(I)I"⟩
abbrev cX0_sum : ByteArray := prog_2_method_4_code
def yX0_sum : MethodName := ⟨RX0, "sum", "()I"⟩
abbrev cX0_marks : ByteArray := prog_2_method_5_code
def yX0_marks : MethodName := ⟨RX0, "marks", "()I"⟩
abbrev cX0_isRight : ByteArray := prog_2_method_6_code
def yX0_isRight : MethodName := ⟨RX0, "isRight", "()Z"⟩
abbrev cX0_comesFrom : ByteArray := prog_2_method_7_code
def yX0_comesFrom : MethodName := ⟨RX0, "comesFrom", "(LLastInBox$Heap;II)V"⟩
abbrev cX0_fromLatest : ByteArray := prog_2_method_8_code
def yX0_fromLatest : MethodName := ⟨RX0, "fromLatest", "(LLastInBox$Heap;Z)V"⟩
abbrev cX0_fromFirst : ByteArray := prog_2_method_9_code
def yX0_fromFirst : MethodName := ⟨RX0, "fromFirst", "(LLastInBox$Heap;Z)V"⟩
abbrev cX0_greatestFirst : ByteArray := prog_2_method_10_code
def yX0_greatestFirst : MethodName := ⟨RX0, "greatestFirst", "(LLastInBox$Heap;)V"⟩
abbrev cX0_asTold : ByteArray := prog_2_method_11_code
def yX0_asTold : MethodName := ⟨RX0, "asTold", "(LLastInBox$Heap;)V"⟩
abbrev cX0_handOut : ByteArray := prog_2_method_12_code
def yX0_handOut : MethodName := ⟨RX0, "handOut", "(LLastInBox$Heap;II)V"⟩
def RX1 : String := "LastInBox$Foresight"
def TX1 : u_T := fun k => match k with
  | 0 => ("LastInBox$Foresight", "hall", "LLastInBox$Hall;", true)
  | 1 => ("LastInBox$Foresight", "change", "LLastInBox$Change;", true)
  | 2 => ("LastInBox$Foresight", "heaps", "[LLastInBox$Heap;", true)
  | 3 => ("LastInBox$Foresight", "purses", "[[I", true)
  | 4 => ("LastInBox$Foresight", "named", "[I", true)
  | 5 => ("LastInBox$Foresight", "queued", "[I", true)
  | 6 => ("LastInBox$Foresight", "queuedSorts", "[I", true)
  | 7 => ("LastInBox$Foresight", "row", "[I", true)
  | 8 => ("LastInBox$Foresight", "bestRow", "[I", true)
  | 9 => ("LastInBox$Foresight", "queueLength", "I", false)
  | 10 => ("LastInBox$Foresight", "mostRight", "I", false)
  | 11 => ("LastInBox$Foresight", "wantedSort", "I", false)
  | 12 => ("LastInBox$Foresight", "wantedAbove", "I", false)
  | _ => ("LastInBox$Foresight", "firstFitting", "I", false)
def tyX1 : Nat → FieldType := fun k => match k with
  | 0 => .object "LastInBox$Hall"
  | 1 => .object "LastInBox$Change"
  | 2 => .array (.object "LastInBox$Heap")
  | 3 => .array (.array .int)
  | 4 => .array .int
  | 5 => .array .int
  | 6 => .array .int
  | 7 => .array .int
  | 8 => .array .int
  | 9 => .int
  | 10 => .int
  | 11 => .int
  | 12 => .int
  | _ => .int
abbrev wsX10 : List Cond := u_ws RX1 TX1 14
theorem nmX1 : ∀ a, a < 14 → ∀ b, b < 14 → a ≠ b → (TX1 a).2.1 ≠ (TX1 b).2.1 := by decide +kernel
theorem tyX1_ok : ∀ k, k < 14 → parseFieldDescriptor (TX1 k).2.2.1 = some (tyX1 k) := by decide +kernel
abbrev cX1_init : ByteArray := prog_3_method_1_code
def yX1_init : MethodName := ⟨RX1, "<init>", "(LLastInBox$Hall;LLastInBox$Change;)V"⟩
abbrev cX1_foresee : ByteArray := prog_3_method_2_code
def yX1_foresee : MethodName := ⟨RX1, "foresee", "(II)V"⟩
abbrev cX1_goesRight : ByteArray := prog_3_method_3_code
def yX1_goesRight : MethodName := ⟨RX1, "goesRight", "(II)Z"⟩
abbrev cX1_dearest : ByteArray := prog_3_method_4_code
def yX1_dearest : MethodName := ⟨RX1, "dearest", "(I)I"⟩
abbrev cX1_gainBy : ByteArray := prog_3_method_5_code
def yX1_gainBy : MethodName := ⟨RX1, "gainBy", "(I)I"⟩
abbrev cX1_likesOf : ByteArray := prog_3_method_6_code
def yX1_likesOf : MethodName := ⟨RX1, "likesOf", "(I)I"⟩
abbrev cX1_fewestGoes : ByteArray := prog_3_method_7_code
def yX1_fewestGoes : MethodName := ⟨RX1, "fewestGoes", "(III)I"⟩
abbrev cX1_getsIn : ByteArray := prog_3_method_8_code
def yX1_getsIn : MethodName := ⟨RX1, "getsIn", "(II)Z"⟩
abbrev cX1_hasMore : ByteArray := prog_3_method_9_code
def yX1_hasMore : MethodName := ⟨RX1, "hasMore", "(I)Z"⟩
abbrev cX1_paysFromPurse : ByteArray := prog_3_method_10_code
def yX1_paysFromPurse : MethodName := ⟨RX1, "paysFromPurse", "(II)V"⟩
abbrev cX1_queueUp : ByteArray := prog_3_method_11_code
def yX1_queueUp : MethodName := ⟨RX1, "queueUp", "(LLastInBox$Sheet;)V"⟩
abbrev cX1_queueLength : ByteArray := prog_3_method_12_code
def yX1_queueLength : MethodName := ⟨RX1, "queueLength", "()I"⟩
abbrev cX1_putInOrder : ByteArray := prog_3_method_13_code
def yX1_putInOrder : MethodName := ⟨RX1, "putInOrder", "()V"⟩
abbrev cX1_mostRight : ByteArray := prog_3_method_14_code
def yX1_mostRight : MethodName := ⟨RX1, "mostRight", "()I"⟩
abbrev cX1_ordered : ByteArray := prog_3_method_15_code
def yX1_ordered : MethodName := ⟨RX1, "ordered", "(I)I"⟩
abbrev cX1_standNext : ByteArray := prog_3_method_16_code
def yX1_standNext : MethodName := ⟨RX1, "standNext", "(III)V"⟩
abbrev cX1_fewestAtDawn : ByteArray := prog_3_method_17_code
def yX1_fewestAtDawn : MethodName := ⟨RX1, "fewestAtDawn", "(I)I"⟩
abbrev cX1_allGoRight : ByteArray := prog_3_method_18_code
def yX1_allGoRight : MethodName := ⟨RX1, "allGoRight", "(II)Z"⟩
abbrev cX1_rowsOf : ByteArray := prog_3_method_19_code
def yX1_rowsOf : MethodName := ⟨RX1, "rowsOf", "(I)I"⟩
abbrev cX1_wrongRows : ByteArray := prog_3_method_20_code
def yX1_wrongRows : MethodName := ⟨RX1, "wrongRows", "(I)I"⟩
abbrev cX1_wrongFrom : ByteArray := prog_3_method_21_code
def yX1_wrongFrom : MethodName := ⟨RX1, "wrongFrom", "(II)I"⟩
abbrev cX1_goesToMarked : ByteArray := prog_3_method_22_code
def yX1_goesToMarked : MethodName := ⟨RX1, "goesToMarked", "(I)I"⟩
abbrev cX1_kindsGiving : ByteArray := prog_3_method_23_code
def yX1_kindsGiving : MethodName := ⟨RX1, "kindsGiving", "(LLastInBox$Sheet;I)I"⟩
abbrev cX1_isChange : ByteArray := prog_3_method_24_code
def yX1_isChange : MethodName := ⟨RX1, "isChange", "(LLastInBox$Sheet;)Z"⟩
abbrev cX1_rowsFitting : ByteArray := prog_3_method_25_code
def yX1_rowsFitting : MethodName := ⟨RX1, "rowsFitting", "(LLastInBox$Sheet;)I"⟩
abbrev cX1_firstFitting : ByteArray := prog_3_method_26_code
def yX1_firstFitting : MethodName := ⟨RX1, "firstFitting", "()I"⟩
abbrev cX1_fittingFrom : ByteArray := prog_3_method_27_code
def yX1_fittingFrom : MethodName := ⟨RX1, "fittingFrom", "(LLastInBox$Sheet;II)I"⟩
def RX2 : String := "LastInBox$Hall"
def TX2 : u_T := fun k => match k with
  | 0 => ("LastInBox$Hall", "worths", "[I", true)
  | 1 => ("LastInBox$Hall", "heap", "LLastInBox$Heap;", true)
  | 2 => ("LastInBox$Hall", "marks", "[I", true)
  | 3 => ("LastInBox$Hall", "gives", "LLastInBox$Text;", true)
  | 4 => ("LastInBox$Hall", "likes", "LLastInBox$Text;", true)
  | 5 => ("LastInBox$Hall", "purses", "[I", true)
  | 6 => ("LastInBox$Hall", "tape", "[I", true)
  | 7 => ("LastInBox$Hall", "numbers", "[I", true)
  | 8 => ("LastInBox$Hall", "price", "I", false)
  | 9 => ("LastInBox$Hall", "kind", "I", false)
  | 10 => ("LastInBox$Hall", "m", "I", false)
  | 11 => ("LastInBox$Hall", "taken", "I", false)
  | 12 => ("LastInBox$Hall", "people", "I", false)
  | 13 => ("LastInBox$Hall", "bytes", "I", false)
  | 14 => ("LastInBox$Hall", "waiting", "I", false)
  | _ => ("LastInBox$Hall", "z", "I", false)
def tyX2 : Nat → FieldType := fun k => match k with
  | 0 => .array .int
  | 1 => .object "LastInBox$Heap"
  | 2 => .array .int
  | 3 => .object "LastInBox$Text"
  | 4 => .object "LastInBox$Text"
  | 5 => .array .int
  | 6 => .array .int
  | 7 => .array .int
  | 8 => .int
  | 9 => .int
  | 10 => .int
  | 11 => .int
  | 12 => .int
  | 13 => .int
  | 14 => .int
  | _ => .int
abbrev wsX20 : List Cond := u_ws RX2 TX2 16
theorem nmX2 : ∀ a, a < 16 → ∀ b, b < 16 → a ≠ b → (TX2 a).2.1 ≠ (TX2 b).2.1 := by decide +kernel
theorem tyX2_ok : ∀ k, k < 16 → parseFieldDescriptor (TX2 k).2.2.1 = some (tyX2 k) := by decide +kernel
abbrev cX2_init : ByteArray := prog_4_method_1_code
def yX2_init : MethodName := ⟨RX2, "<init>", "()V"⟩
abbrev cX2_isSort : ByteArray := prog_4_method_2_code
def yX2_isSort : MethodName := ⟨RX2, "isSort", "(I)Z"⟩
abbrev cX2_worthOf : ByteArray := prog_4_method_3_code
def yX2_worthOf : MethodName := ⟨RX2, "worthOf", "(I)I"⟩
abbrev cX2_worthOfCoin : ByteArray := prog_4_method_4_code
def yX2_worthOfCoin : MethodName := ⟨RX2, "worthOfCoin", "(I)I"⟩
abbrev cX2_pays : ByteArray := prog_4_method_5_code
def yX2_pays : MethodName := ⟨RX2, "pays", "(I)Z"⟩
abbrev cX2_greatestWorth : ByteArray := prog_4_method_6_code
def yX2_greatestWorth : MethodName := ⟨RX2, "greatestWorth", "(I)I"⟩
abbrev cX2_heapWorth : ByteArray := prog_4_method_7_code
def yX2_heapWorth : MethodName := ⟨RX2, "heapWorth", "()I"⟩
abbrev cX2_isPerson : ByteArray := prog_4_method_8_code
def yX2_isPerson : MethodName := ⟨RX2, "isPerson", "(I)Z"⟩
abbrev cX2_coinsOf : ByteArray := prog_4_method_9_code
def yX2_coinsOf : MethodName := ⟨RX2, "coinsOf", "(II)I"⟩
abbrev cX2_setCoins : ByteArray := prog_4_method_10_code
def yX2_setCoins : MethodName := ⟨RX2, "setCoins", "(III)V"⟩
abbrev cX2_purseWorth : ByteArray := prog_4_method_11_code
def yX2_purseWorth : MethodName := ⟨RX2, "purseWorth", "(I)I"⟩
abbrev cX2_comesToPurse : ByteArray := prog_4_method_12_code
def yX2_comesToPurse : MethodName := ⟨RX2, "comesToPurse", "(II)V"⟩
abbrev cX2_byteAt : ByteArray := prog_4_method_13_code
def yX2_byteAt : MethodName := ⟨RX2, "byteAt", "(I)I"⟩
abbrev cX2_addByte : ByteArray := prog_4_method_14_code
def yX2_addByte : MethodName := ⟨RX2, "addByte", "(I)V"⟩
abbrev cX2_addWaiting : ByteArray := prog_4_method_15_code
def yX2_addWaiting : MethodName := ⟨RX2, "addWaiting", "(I)Z"⟩
abbrev cX2_firstUnlike : ByteArray := prog_4_method_16_code
def yX2_firstUnlike : MethodName := ⟨RX2, "firstUnlike", "()I"⟩
abbrev cX2_draw : ByteArray := prog_4_method_17_code
def yX2_draw : MethodName := ⟨RX2, "draw", "()I"⟩
abbrev cX2_copyFrom : ByteArray := prog_4_method_18_code
def yX2_copyFrom : MethodName := ⟨RX2, "copyFrom", "(LLastInBox$Hall;)V"⟩
def RX3 : String := "LastInBox$Heap"
def TX3 : u_T := fun k => match k with
  | 0 => ("LastInBox$Heap", "coins", "[I", true)
  | 1 => ("LastInBox$Heap", "size", "I", false)
  | _ => ("LastInBox$Heap", "firstGap", "I", false)
def tyX3 : Nat → FieldType := fun k => match k with
  | 0 => .array .int
  | 1 => .int
  | _ => .int
abbrev wsX30 : List Cond := u_ws RX3 TX3 3
theorem nmX3 : ∀ a, a < 3 → ∀ b, b < 3 → a ≠ b → (TX3 a).2.1 ≠ (TX3 b).2.1 := by decide +kernel
theorem tyX3_ok : ∀ k, k < 3 → parseFieldDescriptor (TX3 k).2.2.1 = some (tyX3 k) := by decide +kernel
abbrev cX3_init : ByteArray := prog_5_method_1_code
def yX3_init : MethodName := ⟨RX3, "<init>", "()V"⟩
abbrev cX3_size : ByteArray := prog_5_method_2_code
def yX3_size : MethodName := ⟨RX3, "size", "()I"⟩
abbrev cX3_at : ByteArray := prog_5_method_3_code
def yX3_at : MethodName := ⟨RX3, "at", "(I)I"⟩
abbrev cX3_addLatest : ByteArray := prog_5_method_4_code
def yX3_addLatest : MethodName := ⟨RX3, "addLatest", "(I)Z"⟩
abbrev cX3_takeOut : ByteArray := prog_5_method_5_code
def yX3_takeOut : MethodName := ⟨RX3, "takeOut", "(I)V"⟩
abbrev cX3_closeGaps : ByteArray := prog_5_method_6_code
def yX3_closeGaps : MethodName := ⟨RX3, "closeGaps", "()V"⟩
abbrev cX3_takeAll : ByteArray := prog_5_method_7_code
def yX3_takeAll : MethodName := ⟨RX3, "takeAll", "()V"⟩
abbrev cX3_hasMarked : ByteArray := prog_5_method_8_code
def yX3_hasMarked : MethodName := ⟨RX3, "hasMarked", "()Z"⟩
abbrev cX3_copyFrom : ByteArray := prog_5_method_9_code
def yX3_copyFrom : MethodName := ⟨RX3, "copyFrom", "(LLastInBox$Heap;)V"⟩
def RX4 : String := "LastInBox$Kinds"
def TX4 : u_T := fun k => match k with
  | _ => ("", "", "", false)
def tyX4 : Nat → FieldType := fun k => match k with
  | _ => .int
abbrev wsX40 : List Cond := u_ws RX4 TX4 0
theorem nmX4 : ∀ a, a < 0 → ∀ b, b < 0 → a ≠ b → (TX4 a).2.1 ≠ (TX4 b).2.1 := by decide +kernel
theorem tyX4_ok : ∀ k, k < 0 → parseFieldDescriptor (TX4 k).2.2.1 = some (tyX4 k) := by decide +kernel
abbrev cX4_isKind : ByteArray := prog_6_method_2_code
def yX4_isKind : MethodName := ⟨RX4, "isKind", "(I)Z"⟩
abbrev cX4_above : ByteArray := prog_6_method_3_code
def yX4_above : MethodName := ⟨RX4, "above", "(I)I"⟩
abbrev cX4_isOrUnder : ByteArray := prog_6_method_4_code
def yX4_isOrUnder : MethodName := ⟨RX4, "isOrUnder", "(II)Z"⟩
abbrev cX4_bodyFor : ByteArray := prog_6_method_5_code
def yX4_bodyFor : MethodName := ⟨RX4, "bodyFor", "(II)I"⟩
def RX5 : String := "LastInBox$Reader"
def TX5 : u_T := fun k => match k with
  | 0 => ("LastInBox$Reader", "hall", "LLastInBox$Hall;", true)
  | 1 => ("LastInBox$Reader", "made", "LLastInBox$Text;", true)
  | 2 => ("LastInBox$Reader", "names", "Ljava/lang/String;", false)
  | _ => ("LastInBox$Reader", "place", "I", false)
def tyX5 : Nat → FieldType := fun k => match k with
  | 0 => .object "LastInBox$Hall"
  | 1 => .object "LastInBox$Text"
  | 2 => .object "java/lang/String"
  | _ => .int
abbrev wsX50 : List Cond := u_ws RX5 TX5 4
theorem nmX5 : ∀ a, a < 4 → ∀ b, b < 4 → a ≠ b → (TX5 a).2.1 ≠ (TX5 b).2.1 := by decide +kernel
theorem tyX5_ok : ∀ k, k < 4 → parseFieldDescriptor (TX5 k).2.2.1 = some (tyX5 k) := by decide +kernel
abbrev cX5_init : ByteArray := prog_7_method_1_code
def yX5_init : MethodName := ⟨RX5, "<init>", "(LLastInBox$Hall;)V"⟩
abbrev cX5_made : ByteArray := prog_7_method_2_code
def yX5_made : MethodName := ⟨RX5, "made", "()LLastInBox$Text;"⟩
abbrev cX5_place : ByteArray := prog_7_method_3_code
def yX5_place : MethodName := ⟨RX5, "place", "()I"⟩
abbrev cX5_reads : ByteArray := prog_7_method_4_code
def yX5_reads : MethodName := ⟨RX5, "reads", "(Ljava/lang/String;)Z"⟩
abbrev cX5_readLevel : ByteArray := prog_7_method_5_code
def yX5_readLevel : MethodName := ⟨RX5, "readLevel", "(II)Z"⟩
abbrev cX5_isSignOf : ByteArray := prog_7_method_6_code
def yX5_isSignOf : MethodName := ⟨RX5, "isSignOf", "(I)Z"⟩
abbrev cX5_readUnit : ByteArray := prog_7_method_7_code
def yX5_readUnit : MethodName := ⟨RX5, "readUnit", "(I)Z"⟩
abbrev cX5_readNot : ByteArray := prog_7_method_8_code
def yX5_readNot : MethodName := ⟨RX5, "readNot", "(I)Z"⟩
abbrev cX5_readInside : ByteArray := prog_7_method_9_code
def yX5_readInside : MethodName := ⟨RX5, "readInside", "(I)Z"⟩
abbrev cX5_readNumber : ByteArray := prog_7_method_10_code
def yX5_readNumber : MethodName := ⟨RX5, "readNumber", "()Z"⟩
abbrev cX5_readName : ByteArray := prog_7_method_11_code
def yX5_readName : MethodName := ⟨RX5, "readName", "(I)Z"⟩
abbrev cX5_isDigit : ByteArray := prog_7_method_12_code
def yX5_isDigit : MethodName := ⟨RX5, "isDigit", "(I)Z"⟩
def RX6 : String := "LastInBox$Sheet"
def TX6 : u_T := fun k => match k with
  | 0 => ("LastInBox$Sheet", "numbers", "[I", true)
  | 1 => ("LastInBox$Sheet", "bits", "I", false)
  | _ => ("LastInBox$Sheet", "size", "I", false)
def tyX6 : Nat → FieldType := fun k => match k with
  | 0 => .array .int
  | 1 => .int
  | _ => .int
abbrev wsX60 : List Cond := u_ws RX6 TX6 3
theorem nmX6 : ∀ a, a < 3 → ∀ b, b < 3 → a ≠ b → (TX6 a).2.1 ≠ (TX6 b).2.1 := by decide +kernel
theorem tyX6_ok : ∀ k, k < 3 → parseFieldDescriptor (TX6 k).2.2.1 = some (tyX6 k) := by decide +kernel
abbrev cX6_init : ByteArray := prog_8_method_1_code
def yX6_init : MethodName := ⟨RX6, "<init>", "()V"⟩
abbrev cX6_isMissing : ByteArray := prog_8_method_2_code
def yX6_isMissing : MethodName := ⟨RX6, "isMissing", "()Z"⟩
abbrev cX6_isAlike : ByteArray := prog_8_method_3_code
def yX6_isAlike : MethodName := ⟨RX6, "isAlike", "(LLastInBox$Sheet;)Z"⟩
abbrev cX6_size : ByteArray := prog_8_method_4_code
def yX6_size : MethodName := ⟨RX6, "size", "()I"⟩
abbrev cX6_at : ByteArray := prog_8_method_5_code
def yX6_at : MethodName := ⟨RX6, "at", "(I)I"⟩
abbrev cX6_renew : ByteArray := prog_8_method_6_code
def yX6_renew : MethodName := ⟨RX6, "renew", "(II)V"⟩
abbrev cX6_write : ByteArray := prog_8_method_7_code
def yX6_write : MethodName := ⟨RX6, "write", "(II)V"⟩
abbrev cX6_hasPart : ByteArray := prog_8_method_8_code
def yX6_hasPart : MethodName := ⟨RX6, "hasPart", "(II)Z"⟩
abbrev cX6_writePart : ByteArray := prog_8_method_9_code
def yX6_writePart : MethodName := ⟨RX6, "writePart", "(ILLastInBox$Sheet;II)V"⟩
def RX7 : String := "LastInBox$Text"
def TX7 : u_T := fun k => match k with
  | 0 => ("LastInBox$Text", "codes", "[I", true)
  | 1 => ("LastInBox$Text", "stack", "[I", true)
  | _ => ("LastInBox$Text", "size", "I", false)
def tyX7 : Nat → FieldType := fun k => match k with
  | 0 => .array .int
  | 1 => .array .int
  | _ => .int
abbrev wsX70 : List Cond := u_ws RX7 TX7 3
theorem nmX7 : ∀ a, a < 3 → ∀ b, b < 3 → a ≠ b → (TX7 a).2.1 ≠ (TX7 b).2.1 := by decide +kernel
theorem tyX7_ok : ∀ k, k < 3 → parseFieldDescriptor (TX7 k).2.2.1 = some (tyX7 k) := by decide +kernel
abbrev cX7_init : ByteArray := prog_9_method_1_code
def yX7_init : MethodName := ⟨RX7, "<init>", "()V"⟩
abbrev cX7_isThere : ByteArray := prog_9_method_2_code
def yX7_isThere : MethodName := ⟨RX7, "isThere", "()Z"⟩
abbrev cX7_clear : ByteArray := prog_9_method_3_code
def yX7_clear : MethodName := ⟨RX7, "clear", "()V"⟩
abbrev cX7_copyFrom : ByteArray := prog_9_method_4_code
def yX7_copyFrom : MethodName := ⟨RX7, "copyFrom", "(LLastInBox$Text;)V"⟩
abbrev cX7_addNumber : ByteArray := prog_9_method_5_code
def yX7_addNumber : MethodName := ⟨RX7, "addNumber", "(I)V"⟩
abbrev cX7_addName : ByteArray := prog_9_method_6_code
def yX7_addName : MethodName := ⟨RX7, "addName", "(I)V"⟩
abbrev cX7_addSign : ByteArray := prog_9_method_7_code
def yX7_addSign : MethodName := ⟨RX7, "addSign", "(I)V"⟩
abbrev cX7_addCode : ByteArray := prog_9_method_8_code
def yX7_addCode : MethodName := ⟨RX7, "addCode", "(I)V"⟩
abbrev cX7_valueWith : ByteArray := prog_9_method_9_code
def yX7_valueWith : MethodName := ⟨RX7, "valueWith", "([I)I"⟩
abbrev cX7_valueOf : ByteArray := prog_9_method_10_code
def yX7_valueOf : MethodName := ⟨RX7, "valueOf", "(I[I)I"⟩
abbrev cX7_joined : ByteArray := prog_9_method_11_code
def yX7_joined : MethodName := ⟨RX7, "joined", "(III)I"⟩
def RX8 : String := "LastInBox$Voices"
def TX8 : u_T := fun k => match k with
  | 0 => ("LastInBox$Voices", "trace", "[I", true)
  | 1 => ("LastInBox$Voices", "size", "I", false)
  | 2 => ("LastInBox$Voices", "kind", "I", false)
  | 3 => ("LastInBox$Voices", "m", "I", false)
  | _ => ("LastInBox$Voices", "parted", "Z", false)
def tyX8 : Nat → FieldType := fun k => match k with
  | 0 => .array .int
  | 1 => .int
  | 2 => .int
  | 3 => .int
  | _ => .boolean
abbrev wsX80 : List Cond := u_ws RX8 TX8 5
theorem nmX8 : ∀ a, a < 5 → ∀ b, b < 5 → a ≠ b → (TX8 a).2.1 ≠ (TX8 b).2.1 := by decide +kernel
theorem tyX8_ok : ∀ k, k < 5 → parseFieldDescriptor (TX8 k).2.2.1 = some (tyX8 k) := by decide +kernel
abbrev cX8_init : ByteArray := prog_10_method_1_code
def yX8_init : MethodName := ⟨RX8, "<init>", "()V"⟩
abbrev cX8_size : ByteArray := prog_10_method_2_code
def yX8_size : MethodName := ⟨RX8, "size", "()I"⟩
abbrev cX8_at : ByteArray := prog_10_method_3_code
def yX8_at : MethodName := ⟨RX8, "at", "(I)I"⟩
abbrev cX8_isParted : ByteArray := prog_10_method_4_code
def yX8_isParted : MethodName := ⟨RX8, "isParted", "()Z"⟩
abbrev cX8_say : ByteArray := prog_10_method_5_code
def yX8_say : MethodName := ⟨RX8, "say", "(LLastInBox$Hall;II)I"⟩
abbrev cX8_own : ByteArray := prog_10_method_6_code
def yX8_own : MethodName := ⟨RX8, "own", "(III)I"⟩
abbrev cX8_above : ByteArray := prog_10_method_7_code
def yX8_above : MethodName := ⟨RX8, "above", "(IIII)I"⟩
abbrev cX8_work : ByteArray := prog_10_method_8_code
def yX8_work : MethodName := ⟨RX8, "work", "(III)I"⟩
abbrev cX8_parts : ByteArray := prog_10_method_9_code
def yX8_parts : MethodName := ⟨RX8, "parts", "(I)I"⟩
abbrev cX8_partsAndGives : ByteArray := prog_10_method_10_code
def yX8_partsAndGives : MethodName := ⟨RX8, "partsAndGives", "(II)I"⟩
def RX9 : String := "LastInBox"
def TX9 : u_T := fun k => match k with
  | 0 => ("LastInBox", "hall", "LLastInBox$Hall;", true)
  | 1 => ("LastInBox", "kept", "LLastInBox$Hall;", true)
  | 2 => ("LastInBox", "given", "LLastInBox$Change;", true)
  | 3 => ("LastInBox", "foresight", "LLastInBox$Foresight;", true)
  | 4 => ("LastInBox", "reader", "LLastInBox$Reader;", true)
  | 5 => ("LastInBox", "voices", "LLastInBox$Voices;", true)
  | 6 => ("LastInBox", "sheets", "[LLastInBox$Sheet;", true)
  | 7 => ("LastInBox", "errors", "[I", true)
  | _ => ("LastInBox", "images", "I", false)
def tyX9 : Nat → FieldType := fun k => match k with
  | 0 => .object "LastInBox$Hall"
  | 1 => .object "LastInBox$Hall"
  | 2 => .object "LastInBox$Change"
  | 3 => .object "LastInBox$Foresight"
  | 4 => .object "LastInBox$Reader"
  | 5 => .object "LastInBox$Voices"
  | 6 => .array (.object "LastInBox$Sheet")
  | 7 => .array .int
  | _ => .int
abbrev wsX90 : List Cond := u_ws RX9 TX9 9
theorem nmX9 : ∀ a, a < 9 → ∀ b, b < 9 → a ≠ b → (TX9 a).2.1 ≠ (TX9 b).2.1 := by decide +kernel
theorem tyX9_ok : ∀ k, k < 9 → parseFieldDescriptor (TX9 k).2.2.1 = some (tyX9 k) := by decide +kernel
abbrev cX9_init : ByteArray := prog_1_method_1_code
def yX9_init : MethodName := ⟨RX9, "<init>", "()V"⟩
abbrev cX9_worth : ByteArray := prog_1_method_2_code
def yX9_worth : MethodName := ⟨RX9, "worth", "(II)I"⟩
abbrev cX9_ticket : ByteArray := prog_1_method_3_code
def yX9_ticket : MethodName := ⟨RX9, "ticket", "(I)I"⟩
abbrev cX9_box : ByteArray := prog_1_method_4_code
def yX9_box : MethodName := ⟨RX9, "box", "(I)I"⟩
abbrev cX9_as : ByteArray := prog_1_method_5_code
def yX9_as : MethodName := ⟨RX9, "as", "(I)I"⟩
abbrev cX9_lay : ByteArray := prog_1_method_6_code
def yX9_lay : MethodName := ⟨RX9, "lay", "(II)I"⟩
abbrev cX9_empty : ByteArray := prog_1_method_7_code
def yX9_empty : MethodName := ⟨RX9, "empty", "()I"⟩
abbrev cX9_coin : ByteArray := prog_1_method_8_code
def yX9_coin : MethodName := ⟨RX9, "coin", "(I)I"⟩
abbrev cX9_person : ByteArray := prog_1_method_9_code
def yX9_person : MethodName := ⟨RX9, "person", "()I"⟩
abbrev cX9_personIs : ByteArray := prog_1_method_10_code
def yX9_personIs : MethodName := ⟨RX9, "personIs", "(II)I"⟩
abbrev cX9_give : ByteArray := prog_1_method_11_code
def yX9_give : MethodName := ⟨RX9, "give", "(III)I"⟩
abbrev cX9_feed : ByteArray := prog_1_method_12_code
def yX9_feed : MethodName := ⟨RX9, "feed", "(JI)I"⟩
abbrev cX9_text : ByteArray := prog_1_method_13_code
def yX9_text : MethodName := ⟨RX9, "text", "(I)I"⟩
abbrev cX9_untell : ByteArray := prog_1_method_14_code
def yX9_untell : MethodName := ⟨RX9, "untell", "(I)I"⟩
abbrev cX9_go : ByteArray := prog_1_method_15_code
def yX9_go : MethodName := ⟨RX9, "go", "(II)I"⟩
abbrev cX9_stranger : ByteArray := prog_1_method_16_code
def yX9_stranger : MethodName := ⟨RX9, "stranger", "(I)I"⟩
abbrev cX9_draws : ByteArray := prog_1_method_17_code
def yX9_draws : MethodName := ⟨RX9, "draws", "(I)I"⟩
abbrev cX9_seed : ByteArray := prog_1_method_18_code
def yX9_seed : MethodName := ⟨RX9, "seed", "(I)I"⟩
abbrev cX9_change : ByteArray := prog_1_method_19_code
def yX9_change : MethodName := ⟨RX9, "change", "(II)I"⟩
abbrev cX9_dear : ByteArray := prog_1_method_20_code
def yX9_dear : MethodName := ⟨RX9, "dear", "(I)I"⟩
abbrev cX9_get : ByteArray := prog_1_method_21_code
def yX9_get : MethodName := ⟨RX9, "get", "(III)I"⟩
abbrev cX9_order : ByteArray := prog_1_method_22_code
def yX9_order : MethodName := ⟨RX9, "order", "(II)I"⟩
abbrev cX9_dawn : ByteArray := prog_1_method_23_code
def yX9_dawn : MethodName := ⟨RX9, "dawn", "(II)I"⟩
abbrev cX9_wrong : ByteArray := prog_1_method_24_code
def yX9_wrong : MethodName := ⟨RX9, "wrong", "(II)J"⟩
abbrev cX9_again : ByteArray := prog_1_method_25_code
def yX9_again : MethodName := ⟨RX9, "again", "(I)I"⟩
abbrev cX9_must : ByteArray := prog_1_method_26_code
def yX9_must : MethodName := ⟨RX9, "must", "(II)I"⟩
abbrev cX9_tally : ByteArray := prog_1_method_27_code
def yX9_tally : MethodName := ⟨RX9, "tally", "(II)I"⟩
abbrev cX9_voice : ByteArray := prog_1_method_28_code
def yX9_voice : MethodName := ⟨RX9, "voice", "(II)I"⟩
abbrev cX9_body : ByteArray := prog_1_method_29_code
def yX9_body : MethodName := ⟨RX9, "body", "(I)I"⟩
abbrev cX9_sheet : ByteArray := prog_1_method_30_code
def yX9_sheet : MethodName := ⟨RX9, "sheet", "(III)I"⟩
abbrev cX9_put : ByteArray := prog_1_method_31_code
def yX9_put : MethodName := ⟨RX9, "put", "(III)I"⟩
abbrev cX9_move : ByteArray := prog_1_method_32_code
def yX9_move : MethodName := ⟨RX9, "move", "(IIIII)I"⟩
abbrev cX9_lays : ByteArray := prog_1_method_33_code
def yX9_lays : MethodName := ⟨RX9, "lays", "(I)I"⟩
abbrev cX9_image : ByteArray := prog_1_method_34_code
def yX9_image : MethodName := ⟨RX9, "image", "()I"⟩
abbrev cX9_restore : ByteArray := prog_1_method_35_code
def yX9_restore : MethodName := ⟨RX9, "restore", "()I"⟩
abbrev cX9_tell : ByteArray := prog_1_method_36_code
def yX9_tell : MethodName := ⟨RX9, "tell", "(I)I"⟩
abbrev cX9_check : ByteArray := prog_1_method_37_code
def yX9_check : MethodName := ⟨RX9, "check", "()I"⟩
abbrev cX9_count : ByteArray := prog_1_method_38_code
def yX9_count : MethodName := ⟨RX9, "count", "(I)I"⟩
abbrev cX9_told : ByteArray := prog_1_method_39_code
def yX9_told : MethodName := ⟨RX9, "told", "(I)I"⟩
abbrev cX9_error : ByteArray := prog_1_method_40_code
def yX9_error : MethodName := ⟨RX9, "error", "(I)I"⟩
abbrev cX9_takeIn : ByteArray := prog_1_method_41_code
def yX9_takeIn : MethodName := ⟨RX9, "takeIn", "(I)V"⟩
abbrev cX9_textOf : ByteArray := prog_1_method_42_code
def yX9_textOf : MethodName := ⟨RX9, "textOf", "(I)LLastInBox$Text;"⟩
abbrev cX9_sheetOf : ByteArray := prog_1_method_43_code
def yX9_sheetOf : MethodName := ⟨RX9, "sheetOf", "(I)LLastInBox$Sheet;"⟩
abbrev cX9_commonDivisor : ByteArray := prog_1_method_44_code
def yX9_commonDivisor : MethodName := ⟨RX9, "commonDivisor", "(II)I"⟩
def RX10 : String := "LastInBoxModel"
def TX10 : u_T := fun k => match k with
  | 0 => ("LastInBoxModel", "s", "[I", true)
  | 1 => ("LastInBoxModel", "kept", "[I", true)
  | 2 => ("LastInBoxModel", "layers", "[I", true)
  | 3 => ("LastInBoxModel", "images", "I", false)
  | 4 => ("LastInBoxModel", "errors", "[I", true)
  | 5 => ("LastInBoxModel", "at", "I", false)
  | 6 => ("LastInBoxModel", "open", "I", false)
  | 7 => ("LastInBoxModel", "steps", "I", false)
  | 8 => ("LastInBoxModel", "use", "I", false)
  | 9 => ("LastInBoxModel", "step", "[I", true)
  | 10 => ("LastInBoxModel", "named", "[I", true)
  | 11 => ("LastInBoxModel", "pile", "[I", true)
  | 12 => ("LastInBoxModel", "given", "[I", true)
  | 13 => ("LastInBoxModel", "many", "I", false)
  | 14 => ("LastInBoxModel", "sum", "I", false)
  | 15 => ("LastInBoxModel", "marks", "I", false)
  | 16 => ("LastInBoxModel", "isRight", "Z", false)
  | 17 => ("LastInBoxModel", "looked", "[Z", true)
  | 18 => ("LastInBoxModel", "stands", "[I", true)
  | 19 => ("LastInBoxModel", "row", "[I", true)
  | 20 => ("LastInBoxModel", "best", "[I", true)
  | 21 => ("LastInBoxModel", "queued", "I", false)
  | 22 => ("LastInBoxModel", "most", "I", false)
  | 23 => ("LastInBoxModel", "wrongRows", "J", false)
  | 24 => ("LastInBoxModel", "allRows", "J", false)
  | 25 => ("LastInBoxModel", "tallied", "I", false)
  | 26 => ("LastInBoxModel", "firstTally", "I", false)
  | 27 => ("LastInBoxModel", "trace", "[I", true)
  | 28 => ("LastInBoxModel", "traced", "I", false)
  | 29 => ("LastInBoxModel", "isParted", "Z", false)
  | 30 => ("LastInBoxModel", "bits", "[I", true)
  | 31 => ("LastInBoxModel", "sizes", "[I", true)
  | 32 => ("LastInBoxModel", "number", "[I", true)
  | _ => ("LastInBoxModel", "aside", "[I", true)
def tyX10 : Nat → FieldType := fun k => match k with
  | 0 => .array .int
  | 1 => .array .int
  | 2 => .array .int
  | 3 => .int
  | 4 => .array .int
  | 5 => .int
  | 6 => .int
  | 7 => .int
  | 8 => .int
  | 9 => .array .int
  | 10 => .array .int
  | 11 => .array .int
  | 12 => .array .int
  | 13 => .int
  | 14 => .int
  | 15 => .int
  | 16 => .boolean
  | 17 => .array .boolean
  | 18 => .array .int
  | 19 => .array .int
  | 20 => .array .int
  | 21 => .int
  | 22 => .int
  | 23 => .long
  | 24 => .long
  | 25 => .int
  | 26 => .int
  | 27 => .array .int
  | 28 => .int
  | 29 => .boolean
  | 30 => .array .int
  | 31 => .array .int
  | 32 => .array .int
  | _ => .array .int
abbrev wsX100 : List Cond := u_ws RX10 TX10 34
theorem nmX10 : ∀ a, a < 34 → ∀ b, b < 34 → a ≠ b → (TX10 a).2.1 ≠ (TX10 b).2.1 := by decide +kernel
theorem tyX10_ok : ∀ k, k < 34 → parseFieldDescriptor (TX10 k).2.2.1 = some (tyX10 k) := by decide +kernel
abbrev cX10_init : ByteArray := prog_12_method_1_code
def yX10_init : MethodName := ⟨RX10, "<init>", "()V"⟩
abbrev cX10_error : ByteArray := prog_12_method_2_code
def yX10_error : MethodName := ⟨RX10, "error", "(I)I"⟩
abbrev cX10_in : ByteArray := prog_12_method_3_code
def yX10_in : MethodName := ⟨RX10, "in", "(III)Z"⟩
abbrev cX10_held : ByteArray := prog_12_method_4_code
def yX10_held : MethodName := ⟨RX10, "held", "(III)I"⟩
abbrev cX10_carry : ByteArray := prog_12_method_5_code
def yX10_carry : MethodName := ⟨RX10, "carry", "([I[I)V"⟩
abbrev cX10_layDown : ByteArray := prog_12_method_6_code
def yX10_layDown : MethodName := ⟨RX10, "layDown", "(I)V"⟩
abbrev cX10_layBack : ByteArray := prog_12_method_7_code
def yX10_layBack : MethodName := ⟨RX10, "layBack", "(I)V"⟩
abbrev cX10_isSort : ByteArray := prog_12_method_8_code
def yX10_isSort : MethodName := ⟨RX10, "isSort", "(I)Z"⟩
abbrev cX10_isPerson : ByteArray := prog_12_method_9_code
def yX10_isPerson : MethodName := ⟨RX10, "isPerson", "(I)Z"⟩
abbrev cX10_has : ByteArray := prog_12_method_10_code
def yX10_has : MethodName := ⟨RX10, "has", "(II)I"⟩
abbrev cX10_worthOf : ByteArray := prog_12_method_11_code
def yX10_worthOf : MethodName := ⟨RX10, "worthOf", "(I)I"⟩
abbrev cX10_pays : ByteArray := prog_12_method_12_code
def yX10_pays : MethodName := ⟨RX10, "pays", "(I)Z"⟩
abbrev cX10_feed : ByteArray := prog_12_method_13_code
def yX10_feed : MethodName := ⟨RX10, "feed", "(JI)I"⟩
abbrev cX10_look : ByteArray := prog_12_method_14_code
def yX10_look : MethodName := ⟨RX10, "look", "()I"⟩
abbrev cX10_isName : ByteArray := prog_12_method_15_code
def yX10_isName : MethodName := ⟨RX10, "isName", "(I)Z"⟩
abbrev cX10_step1 : ByteArray := prog_12_method_16_code
def yX10_step1 : MethodName := ⟨RX10, "step1", "(II)V"⟩
abbrev cX10_whole : ByteArray := prog_12_method_17_code
def yX10_whole : MethodName := ⟨RX10, "whole", "()Z"⟩
abbrev cX10_both : ByteArray := prog_12_method_18_code
def yX10_both : MethodName := ⟨RX10, "both", "()Z"⟩
abbrev cX10_compared : ByteArray := prog_12_method_19_code
def yX10_compared : MethodName := ⟨RX10, "compared", "()Z"⟩
abbrev cX10_sum : ByteArray := prog_12_method_20_code
def yX10_sum : MethodName := ⟨RX10, "sum", "()Z"⟩
abbrev cX10_product : ByteArray := prog_12_method_21_code
def yX10_product : MethodName := ⟨RX10, "product", "()Z"⟩
abbrev cX10_opens : ByteArray := prog_12_method_22_code
def yX10_opens : MethodName := ⟨RX10, "opens", "()Z"⟩
abbrev cX10_one : ByteArray := prog_12_method_23_code
def yX10_one : MethodName := ⟨RX10, "one", "()Z"⟩
abbrev cX10_hasText : ByteArray := prog_12_method_24_code
def yX10_hasText : MethodName := ⟨RX10, "hasText", "(I)Z"⟩
abbrev cX10_text : ByteArray := prog_12_method_25_code
def yX10_text : MethodName := ⟨RX10, "text", "(I)I"⟩
abbrev cX10_untell : ByteArray := prog_12_method_26_code
def yX10_untell : MethodName := ⟨RX10, "untell", "(I)I"⟩
abbrev cX10_joined : ByteArray := prog_12_method_27_code
def yX10_joined : MethodName := ⟨RX10, "joined", "(III)I"⟩
abbrev cX10_worked : ByteArray := prog_12_method_28_code
def yX10_worked : MethodName := ⟨RX10, "worked", "(I)I"⟩
abbrev cX10_worth : ByteArray := prog_12_method_29_code
def yX10_worth : MethodName := ⟨RX10, "worth", "(II)I"⟩
abbrev cX10_ticket : ByteArray := prog_12_method_30_code
def yX10_ticket : MethodName := ⟨RX10, "ticket", "(I)I"⟩
abbrev cX10_box : ByteArray := prog_12_method_31_code
def yX10_box : MethodName := ⟨RX10, "box", "(I)I"⟩
abbrev cX10_isUnder : ByteArray := prog_12_method_32_code
def yX10_isUnder : MethodName := ⟨RX10, "isUnder", "(II)Z"⟩
abbrev cX10_as : ByteArray := prog_12_method_33_code
def yX10_as : MethodName := ⟨RX10, "as", "(I)I"⟩
abbrev cX10_heaps : ByteArray := prog_12_method_34_code
def yX10_heaps : MethodName := ⟨RX10, "heaps", "(II)V"⟩
abbrev cX10_lay : ByteArray := prog_12_method_35_code
def yX10_lay : MethodName := ⟨RX10, "lay", "(II)I"⟩
abbrev cX10_heapWorth : ByteArray := prog_12_method_36_code
def yX10_heapWorth : MethodName := ⟨RX10, "heapWorth", "()I"⟩
abbrev cX10_empty : ByteArray := prog_12_method_37_code
def yX10_empty : MethodName := ⟨RX10, "empty", "()I"⟩
abbrev cX10_coin : ByteArray := prog_12_method_38_code
def yX10_coin : MethodName := ⟨RX10, "coin", "(I)I"⟩
abbrev cX10_person : ByteArray := prog_12_method_39_code
def yX10_person : MethodName := ⟨RX10, "person", "()I"⟩
abbrev cX10_purse : ByteArray := prog_12_method_40_code
def yX10_purse : MethodName := ⟨RX10, "purse", "(I)I"⟩
abbrev cX10_personIs : ByteArray := prog_12_method_41_code
def yX10_personIs : MethodName := ⟨RX10, "personIs", "(II)I"⟩
abbrev cX10_give : ByteArray := prog_12_method_42_code
def yX10_give : MethodName := ⟨RX10, "give", "(III)I"⟩
abbrev cX10_givesTold : ByteArray := prog_12_method_43_code
def yX10_givesTold : MethodName := ⟨RX10, "givesTold", "(II)Z"⟩
abbrev cX10_worthAt : ByteArray := prog_12_method_44_code
def yX10_worthAt : MethodName := ⟨RX10, "worthAt", "(I)I"⟩
abbrev cX10_nextPlace : ByteArray := prog_12_method_45_code
def yX10_nextPlace : MethodName := ⟨RX10, "nextPlace", "(I)I"⟩
abbrev cX10_findChange : ByteArray := prog_12_method_46_code
def yX10_findChange : MethodName := ⟨RX10, "findChange", "(II)V"⟩
abbrev cX10_sortGiven : ByteArray := prog_12_method_47_code
def yX10_sortGiven : MethodName := ⟨RX10, "sortGiven", "(I)I"⟩
abbrev cX10_takes : ByteArray := prog_12_method_48_code
def yX10_takes : MethodName := ⟨RX10, "takes", "(I)V"⟩
abbrev cX10_strange : ByteArray := prog_12_method_49_code
def yX10_strange : MethodName := ⟨RX10, "strange", "(I)Z"⟩
abbrev cX10_goes : ByteArray := prog_12_method_50_code
def yX10_goes : MethodName := ⟨RX10, "goes", "(II)Z"⟩
abbrev cX10_mayGo : ByteArray := prog_12_method_51_code
def yX10_mayGo : MethodName := ⟨RX10, "mayGo", "(II)Z"⟩
abbrev cX10_go : ByteArray := prog_12_method_52_code
def yX10_go : MethodName := ⟨RX10, "go", "(II)I"⟩
abbrev cX10_stranger : ByteArray := prog_12_method_53_code
def yX10_stranger : MethodName := ⟨RX10, "stranger", "(I)I"⟩
abbrev cX10_draw : ByteArray := prog_12_method_54_code
def yX10_draw : MethodName := ⟨RX10, "draw", "()I"⟩
abbrev cX10_draws : ByteArray := prog_12_method_55_code
def yX10_draws : MethodName := ⟨RX10, "draws", "(I)I"⟩
abbrev cX10_seed : ByteArray := prog_12_method_56_code
def yX10_seed : MethodName := ⟨RX10, "seed", "(I)I"⟩
abbrev cX10_change : ByteArray := prog_12_method_57_code
def yX10_change : MethodName := ⟨RX10, "change", "(II)I"⟩
abbrev cX10_likes : ByteArray := prog_12_method_58_code
def yX10_likes : MethodName := ⟨RX10, "likes", "(I)I"⟩
abbrev cX10_dear : ByteArray := prog_12_method_59_code
def yX10_dear : MethodName := ⟨RX10, "dear", "(I)I"⟩
abbrev cX10_gets : ByteArray := prog_12_method_60_code
def yX10_gets : MethodName := ⟨RX10, "gets", "(IIIII)I"⟩
abbrev cX10_get : ByteArray := prog_12_method_61_code
def yX10_get : MethodName := ⟨RX10, "get", "(III)I"⟩
abbrev cX10_findQueue : ByteArray := prog_12_method_62_code
def yX10_findQueue : MethodName := ⟨RX10, "findQueue", "(I)V"⟩
abbrev cX10_queues : ByteArray := prog_12_method_63_code
def yX10_queues : MethodName := ⟨RX10, "queues", "(III)V"⟩
abbrev cX10_order : ByteArray := prog_12_method_64_code
def yX10_order : MethodName := ⟨RX10, "order", "(II)I"⟩
abbrev cX10_allRight : ByteArray := prog_12_method_65_code
def yX10_allRight : MethodName := ⟨RX10, "allRight", "()Z"⟩
abbrev cX10_dawn : ByteArray := prog_12_method_66_code
def yX10_dawn : MethodName := ⟨RX10, "dawn", "(II)I"⟩
abbrev cX10_wrongs : ByteArray := prog_12_method_67_code
def yX10_wrongs : MethodName := ⟨RX10, "wrongs", "(IIZ)V"⟩
abbrev cX10_divisor : ByteArray := prog_12_method_68_code
def yX10_divisor : MethodName := ⟨RX10, "divisor", "(JJ)J"⟩
abbrev cX10_wrong : ByteArray := prog_12_method_69_code
def yX10_wrong : MethodName := ⟨RX10, "wrong", "(II)J"⟩
abbrev cX10_again : ByteArray := prog_12_method_70_code
def yX10_again : MethodName := ⟨RX10, "again", "(I)I"⟩
abbrev cX10_must : ByteArray := prog_12_method_71_code
def yX10_must : MethodName := ⟨RX10, "must", "(II)I"⟩
abbrev cX10_tallies : ByteArray := prog_12_method_72_code
def yX10_tallies : MethodName := ⟨RX10, "tallies", "(III)V"⟩
abbrev cX10_tally : ByteArray := prog_12_method_73_code
def yX10_tally : MethodName := ⟨RX10, "tally", "(II)I"⟩
abbrev cX10_begins : ByteArray := prog_12_method_74_code
def yX10_begins : MethodName := ⟨RX10, "begins", "(I)V"⟩
abbrev cX10_above : ByteArray := prog_12_method_75_code
def yX10_above : MethodName := ⟨RX10, "above", "(I)I"⟩
abbrev cX10_dropsAs : ByteArray := prog_12_method_76_code
def yX10_dropsAs : MethodName := ⟨RX10, "dropsAs", "(II)I"⟩
abbrev cX10_givesAs : ByteArray := prog_12_method_77_code
def yX10_givesAs : MethodName := ⟨RX10, "givesAs", "(II)I"⟩
abbrev cX10_keepsAs : ByteArray := prog_12_method_78_code
def yX10_keepsAs : MethodName := ⟨RX10, "keepsAs", "(II)I"⟩
abbrev cX10_partsAs : ByteArray := prog_12_method_79_code
def yX10_partsAs : MethodName := ⟨RX10, "partsAs", "(II)I"⟩
abbrev cX10_voice : ByteArray := prog_12_method_80_code
def yX10_voice : MethodName := ⟨RX10, "voice", "(II)I"⟩
abbrev cX10_body : ByteArray := prog_12_method_81_code
def yX10_body : MethodName := ⟨RX10, "body", "(I)I"⟩
abbrev cX10_isSheet : ByteArray := prog_12_method_82_code
def yX10_isSheet : MethodName := ⟨RX10, "isSheet", "(I)Z"⟩
abbrev cX10_sheet : ByteArray := prog_12_method_83_code
def yX10_sheet : MethodName := ⟨RX10, "sheet", "(III)I"⟩
abbrev cX10_put : ByteArray := prog_12_method_84_code
def yX10_put : MethodName := ⟨RX10, "put", "(III)I"⟩
abbrev cX10_move : ByteArray := prog_12_method_85_code
def yX10_move : MethodName := ⟨RX10, "move", "(IIIII)I"⟩
abbrev cX10_lays : ByteArray := prog_12_method_86_code
def yX10_lays : MethodName := ⟨RX10, "lays", "(I)I"⟩
abbrev cX10_image : ByteArray := prog_12_method_87_code
def yX10_image : MethodName := ⟨RX10, "image", "()I"⟩
abbrev cX10_restore : ByteArray := prog_12_method_88_code
def yX10_restore : MethodName := ⟨RX10, "restore", "()I"⟩
abbrev cX10_tell : ByteArray := prog_12_method_89_code
def yX10_tell : MethodName := ⟨RX10, "tell", "(I)I"⟩
abbrev cX10_check : ByteArray := prog_12_method_90_code
def yX10_check : MethodName := ⟨RX10, "check", "()I"⟩
abbrev cX10_count : ByteArray := prog_12_method_91_code
def yX10_count : MethodName := ⟨RX10, "count", "(I)I"⟩
abbrev cX10_told : ByteArray := prog_12_method_92_code
def yX10_told : MethodName := ⟨RX10, "told", "(I)I"⟩
def RJx145de : String := "java/io/Serializable"
def TJx145de : u_T := fun k => match k with
  | _ => ("", "", "", false)
def tyJx145de : Nat → FieldType := fun k => match k with
  | _ => .int
theorem nmJx145de : ∀ a, a < 0 → ∀ b, b < 0 → a ≠ b → (TJx145de a).2.1 ≠ (TJx145de b).2.1 := by decide +kernel
theorem tyJx145de_ok : ∀ k, k < 0 → parseFieldDescriptor (TJx145de k).2.2.1 = some (tyJx145de k) := by decide +kernel
def RJx9f9b0 : String := "java/lang/CharSequence"
def TJx9f9b0 : u_T := fun k => match k with
  | _ => ("", "", "", false)
def tyJx9f9b0 : Nat → FieldType := fun k => match k with
  | _ => .int
theorem nmJx9f9b0 : ∀ a, a < 0 → ∀ b, b < 0 → a ≠ b → (TJx9f9b0 a).2.1 ≠ (TJx9f9b0 b).2.1 := by decide +kernel
theorem tyJx9f9b0_ok : ∀ k, k < 0 → parseFieldDescriptor (TJx9f9b0 k).2.2.1 = some (tyJx9f9b0 k) := by decide +kernel
def RJ11 : String := "java/lang/Character"
def TJ11 : u_T := fun k => match k with
  | _ => ("", "", "", false)
def tyJ11 : Nat → FieldType := fun k => match k with
  | _ => .int
abbrev wsJ110 : List Cond := u_ws RJ11 TJ11 0
theorem nmJ11 : ∀ a, a < 0 → ∀ b, b < 0 → a ≠ b → (TJ11 a).2.1 ≠ (TJ11 b).2.1 := by decide +kernel
theorem tyJ11_ok : ∀ k, k < 0 → parseFieldDescriptor (TJ11 k).2.2.1 = some (tyJ11 k) := by decide +kernel
abbrev cJ11_isValidCodePoint_9a6ad : ByteArray := prog_13_method_11_code
def yJ11_isValidCodePoint_9a6ad : MethodName := ⟨RJ11, "isValidCodePoint", "(I)Z"⟩
abbrev cJ11_highSurrogate_5068e : ByteArray := prog_13_method_28_code
def yJ11_highSurrogate_5068e : MethodName := ⟨RJ11, "highSurrogate", "(I)C"⟩
abbrev cJ11_lowSurrogate_5068e : ByteArray := prog_13_method_29_code
def yJ11_lowSurrogate_5068e : MethodName := ⟨RJ11, "lowSurrogate", "(I)C"⟩
def RJxb160c : String := "java/lang/Comparable"
def TJxb160c : u_T := fun k => match k with
  | _ => ("", "", "", false)
def tyJxb160c : Nat → FieldType := fun k => match k with
  | _ => .int
theorem nmJxb160c : ∀ a, a < 0 → ∀ b, b < 0 → a ≠ b → (TJxb160c a).2.1 ≠ (TJxb160c b).2.1 := by decide +kernel
theorem tyJxb160c_ok : ∀ k, k < 0 → parseFieldDescriptor (TJxb160c k).2.2.1 = some (tyJxb160c k) := by decide +kernel
def RJ9 : String := "java/lang/Math"
def TJ9 : u_T := fun k => match k with
  | _ => ("", "", "", false)
def tyJ9 : Nat → FieldType := fun k => match k with
  | _ => .int
abbrev wsJ90 : List Cond := u_ws RJ9 TJ9 0
theorem nmJ9 : ∀ a, a < 0 → ∀ b, b < 0 → a ≠ b → (TJ9 a).2.1 ≠ (TJ9 b).2.1 := by decide +kernel
theorem tyJ9_ok : ∀ k, k < 0 → parseFieldDescriptor (TJ9 k).2.2.1 = some (tyJ9 k) := by decide +kernel
abbrev cJ9_max_7cf53 : ByteArray := prog_14_method_65_code
def yJ9_max_7cf53 : MethodName := ⟨RJ9, "max", "(II)I"⟩
abbrev cJ9_min_7cf53 : ByteArray := prog_14_method_69_code
def yJ9_min_7cf53 : MethodName := ⟨RJ9, "min", "(II)I"⟩
def RJ0 : String := "java/lang/String"
def TJ0 : u_T := fun k => match k with
  | _ => ("", "", "", false)
def tyJ0 : Nat → FieldType := fun k => match k with
  | _ => .int
abbrev wsJ00 : List Cond := u_ws RJ0 TJ0 0
theorem nmJ0 : ∀ a, a < 0 → ∀ b, b < 0 → a ≠ b → (TJ0 a).2.1 ≠ (TJ0 b).2.1 := by decide +kernel
theorem tyJ0_ok : ∀ k, k < 0 → parseFieldDescriptor (TJ0 k).2.2.1 = some (tyJ0 k) := by decide +kernel
abbrev cJ0_length_8abf5 : ByteArray := prog_15_method_54_code
def yJ0_length_8abf5 : MethodName := ⟨RJ0, "length", "()I"⟩
abbrev cJ0_indexOf_0f7a4 : ByteArray := prog_15_method_79_code
def yJ0_indexOf_0f7a4 : MethodName := ⟨RJ0, "indexOf", "(I)I"⟩
abbrev cJ0_indexOf_7cf53 : ByteArray := prog_15_method_80_code
def yJ0_indexOf_7cf53 : MethodName := ⟨RJ0, "indexOf", "(II)I"⟩
abbrev cJ0_coder_7d493 : ByteArray := prog_15_method_152_code
def yJ0_coder_7d493 : MethodName := ⟨RJ0, "coder", "()B"⟩
abbrev cJ0_isLatin1_aae02 : ByteArray := prog_15_method_154_code
def yJ0_isLatin1_aae02 : MethodName := ⟨RJ0, "isLatin1", "()Z"⟩
abbrev cJ0_checkBoundsBeginEnd_23922 : ByteArray := prog_15_method_158_code
def yJ0_checkBoundsBeginEnd_23922 : MethodName := ⟨RJ0, "checkBoundsBeginEnd", "(III)V"⟩
def RJ1 : String := "java/lang/StringLatin1"
def TJ1 : u_T := fun k => match k with
  | _ => ("", "", "", false)
def tyJ1 : Nat → FieldType := fun k => match k with
  | _ => .int
abbrev wsJ10 : List Cond := u_ws RJ1 TJ1 0
theorem nmJ1 : ∀ a, a < 0 → ∀ b, b < 0 → a ≠ b → (TJ1 a).2.1 ≠ (TJ1 b).2.1 := by decide +kernel
theorem tyJ1_ok : ∀ k, k < 0 → parseFieldDescriptor (TJ1 k).2.2.1 = some (tyJ1 k) := by decide +kernel
abbrev cJ1_canEncode_9a6ad : ByteArray := prog_16_method_4_code
def yJ1_canEncode_9a6ad : MethodName := ⟨RJ1, "canEncode", "(I)Z"⟩
abbrev cJ1_indexOf_4cfef : ByteArray := prog_16_method_22_code
def yJ1_indexOf_4cfef : MethodName := ⟨RJ1, "indexOf", "([BIII)I"⟩
abbrev cJ1_indexOfChar_4cfef : ByteArray := prog_16_method_23_code
def yJ1_indexOfChar_4cfef : MethodName := ⟨RJ1, "indexOfChar", "([BIII)I"⟩
def RJ2 : String := "java/lang/StringUTF16"
def TJ2 : u_T := fun k => match k with
  | _ => ("", "", "", false)
def tyJ2 : Nat → FieldType := fun k => match k with
  | _ => .int
abbrev wsJ20 : List Cond := u_ws RJ2 TJ2 0
theorem nmJ2 : ∀ a, a < 0 → ∀ b, b < 0 → a ≠ b → (TJ2 a).2.1 ≠ (TJ2 b).2.1 := by decide +kernel
theorem tyJ2_ok : ∀ k, k < 0 → parseFieldDescriptor (TJ2 k).2.2.1 = some (tyJ2 k) := by decide +kernel
abbrev cJ2_getChar_3b067 : ByteArray := prog_17_method_5_code
def yJ2_getChar_3b067 : MethodName := ⟨RJ2, "getChar", "([BI)C"⟩
abbrev cJ2_length_9d52b : ByteArray := prog_17_method_6_code
def yJ2_length_9d52b : MethodName := ⟨RJ2, "length", "([B)I"⟩
abbrev cJ2_indexOf_4cfef : ByteArray := prog_17_method_40_code
def yJ2_indexOf_4cfef : MethodName := ⟨RJ2, "indexOf", "([BIII)I"⟩
abbrev cJ2_indexOfChar_4cfef : ByteArray := prog_17_method_47_code
def yJ2_indexOfChar_4cfef : MethodName := ⟨RJ2, "indexOfChar", "([BIII)I"⟩
abbrev cJ2_indexOfCharUnsafe_4cfef : ByteArray := prog_17_method_48_code
def yJ2_indexOfCharUnsafe_4cfef : MethodName := ⟨RJ2, "indexOfCharUnsafe", "([BIII)I"⟩
abbrev cJ2_indexOfSupplementary_4cfef : ByteArray := prog_17_method_49_code
def yJ2_indexOfSupplementary_4cfef : MethodName := ⟨RJ2, "indexOfSupplementary", "([BIII)I"⟩
abbrev cJ2_checkBoundsBeginEnd_d044e : ByteArray := prog_17_method_93_code
def yJ2_checkBoundsBeginEnd_d044e : MethodName := ⟨RJ2, "checkBoundsBeginEnd", "(II[B)V"⟩
def RJ10 : String := "java/lang/System"
def TJ10 : u_T := fun k => match k with
  | _ => ("", "", "", false)
def tyJ10 : Nat → FieldType := fun k => match k with
  | _ => .int
abbrev wsJ100 : List Cond := u_ws RJ10 TJ10 0
theorem nmJ10 : ∀ a, a < 0 → ∀ b, b < 0 → a ≠ b → (TJ10 a).2.1 ≠ (TJ10 b).2.1 := by decide +kernel
theorem tyJ10_ok : ∀ k, k < 0 → parseFieldDescriptor (TJ10 k).2.2.1 = some (tyJ10 k) := by decide +kernel
def RJxfd54e : String := "java/lang/constant/Constable"
def TJxfd54e : u_T := fun k => match k with
  | _ => ("", "", "", false)
def tyJxfd54e : Nat → FieldType := fun k => match k with
  | _ => .int
theorem nmJxfd54e : ∀ a, a < 0 → ∀ b, b < 0 → a ≠ b → (TJxfd54e a).2.1 ≠ (TJxfd54e b).2.1 := by decide +kernel
theorem tyJxfd54e_ok : ∀ k, k < 0 → parseFieldDescriptor (TJxfd54e k).2.2.1 = some (tyJxfd54e k) := by decide +kernel
def RJx3cf43 : String := "java/lang/constant/ConstantDesc"
def TJx3cf43 : u_T := fun k => match k with
  | _ => ("", "", "", false)
def tyJx3cf43 : Nat → FieldType := fun k => match k with
  | _ => .int
theorem nmJx3cf43 : ∀ a, a < 0 → ∀ b, b < 0 → a ≠ b → (TJx3cf43 a).2.1 ≠ (TJx3cf43 b).2.1 := by decide +kernel
theorem tyJx3cf43_ok : ∀ k, k < 0 → parseFieldDescriptor (TJx3cf43 k).2.2.1 = some (tyJx3cf43 k) := by decide +kernel
def RJ7 : String := "java/util/Arrays"
def TJ7 : u_T := fun k => match k with
  | _ => ("", "", "", false)
def tyJ7 : Nat → FieldType := fun k => match k with
  | _ => .int
abbrev wsJ70 : List Cond := u_ws RJ7 TJ7 0
theorem nmJ7 : ∀ a, a < 0 → ∀ b, b < 0 → a ≠ b → (TJ7 a).2.1 ≠ (TJ7 b).2.1 := by decide +kernel
theorem tyJ7_ok : ∀ k, k < 0 → parseFieldDescriptor (TJ7 k).2.2.1 = some (tyJ7 k) := by decide +kernel
abbrev cJ7_fill_53178 : ByteArray := prog_19_method_103_code
def yJ7_fill_53178 : MethodName := ⟨RJ7, "fill", "([II)V"⟩
def RJ3 : String := "jdk/internal/util/Preconditions"
def TJ3 : u_T := fun k => match k with
  | _ => ("", "", "", false)
def tyJ3 : Nat → FieldType := fun k => match k with
  | _ => .int
abbrev wsJ30 : List Cond := u_ws RJ3 TJ3 0
theorem nmJ3 : ∀ a, a < 0 → ∀ b, b < 0 → a ≠ b → (TJ3 a).2.1 ≠ (TJ3 b).2.1 := by decide +kernel
theorem tyJ3_ok : ∀ k, k < 0 → parseFieldDescriptor (TJ3 k).2.2.1 = some (tyJ3 k) := by decide +kernel
abbrev cJ3_checkFromToIndex_8c36e : ByteArray := prog_20_method_12_code
def yJ3_checkFromToIndex_8c36e : MethodName := ⟨RJ3, "checkFromToIndex", "(IIILjava/util/function/BiFunction;)I"⟩
def RL : String := "LastInBoxLaw"
abbrev cL_law : ByteArray := code
def yL_law : MethodName := ⟨RL, "law", "([I)Z"⟩
abbrev vwCl : List vw_C := [(RX0, TX0, 7), (RX1, TX1, 14), (RX2, TX2, 16), (RX3, TX3, 3), (RX5, TX5, 4), (RX6, TX6, 3), (RX7, TX7, 3), (RX8, TX8, 5), (RX9, TX9, 9), (RX10, TX10, 34)]
