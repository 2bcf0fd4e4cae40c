section
-- ===== PART A: goes FIRST, ahead of the names: the tables' words, and 'selects' of the private methods out of them =====
/-- a private method of a class that the tables say can be made, by its rows of tables_1 -/
def lw_okq (q : MethodName × Nat) : Prop := (q.1.cls ≠ "java/lang/invoke/MethodHandle" ∧ q.1.cls ≠ "java/lang/invoke/VarHandle") ∧ Cond.instantiable q.1.cls q.2 ∈ tables_1 ∧ Cond.privateMethod q.1 ∈ tables_1 ∧ Cond.instanceMethod q.1 ∈ tables_1
theorem lw_p0 : lw_okq (⟨"BlindPost", "found", "(I)I"⟩, 12) := ⟨⟨by decide +kernel, by decide +kernel⟩, List.mem_of_getElem? (i := 14) (by decide +kernel), List.mem_of_getElem? (i := 250) (by decide +kernel), List.mem_of_getElem? (i := 251) (by decide +kernel)⟩
theorem lw_p1 : lw_okq (⟨"BlindPost", "tell", "(I)I"⟩, 12) := ⟨⟨by decide +kernel, by decide +kernel⟩, List.mem_of_getElem? (i := 14) (by decide +kernel), List.mem_of_getElem? (i := 273) (by decide +kernel), List.mem_of_getElem? (i := 274) (by decide +kernel)⟩
theorem lw_p2 : lw_okq (⟨"BlindPost$Land", "tie", "(III)V"⟩, 12) := ⟨⟨by decide +kernel, by decide +kernel⟩, List.mem_of_getElem? (i := 24) (by decide +kernel), List.mem_of_getElem? (i := 335) (by decide +kernel), List.mem_of_getElem? (i := 336) (by decide +kernel)⟩
theorem lw_p3 : lw_okq (⟨"BlindPost$Reading", "takes", "(I)Z"⟩, 5) := ⟨⟨by decide +kernel, by decide +kernel⟩, List.mem_of_getElem? (i := 116) (by decide +kernel), List.mem_of_getElem? (i := 342) (by decide +kernel), List.mem_of_getElem? (i := 343) (by decide +kernel)⟩
theorem lw_p4 : lw_okq (⟨"BlindPost$Reading", "takesTongue", "(I)Z"⟩, 5) := ⟨⟨by decide +kernel, by decide +kernel⟩, List.mem_of_getElem? (i := 116) (by decide +kernel), List.mem_of_getElem? (i := 346) (by decide +kernel), List.mem_of_getElem? (i := 347) (by decide +kernel)⟩
theorem lw_p5 : lw_okq (⟨"BlindPost$Reading", "takesStart", "(I)Z"⟩, 5) := ⟨⟨by decide +kernel, by decide +kernel⟩, List.mem_of_getElem? (i := 116) (by decide +kernel), List.mem_of_getElem? (i := 354) (by decide +kernel), List.mem_of_getElem? (i := 355) (by decide +kernel)⟩
theorem lw_p6 : lw_okq (⟨"BlindPost$Reading", "takesOne", "(I)Z"⟩, 5) := ⟨⟨by decide +kernel, by decide +kernel⟩, List.mem_of_getElem? (i := 116) (by decide +kernel), List.mem_of_getElem? (i := 365) (by decide +kernel), List.mem_of_getElem? (i := 366) (by decide +kernel)⟩
theorem lw_p7 : lw_okq (⟨"BlindPost$Reading", "takesOther", "(I)Z"⟩, 5) := ⟨⟨by decide +kernel, by decide +kernel⟩, List.mem_of_getElem? (i := 116) (by decide +kernel), List.mem_of_getElem? (i := 373) (by decide +kernel), List.mem_of_getElem? (i := 374) (by decide +kernel)⟩
theorem lw_p8 : lw_okq (⟨"BlindPost$Reading", "takesTime", "(I)Z"⟩, 5) := ⟨⟨by decide +kernel, by decide +kernel⟩, List.mem_of_getElem? (i := 116) (by decide +kernel), List.mem_of_getElem? (i := 377) (by decide +kernel), List.mem_of_getElem? (i := 378) (by decide +kernel)⟩
theorem lw_p9 : lw_okq (⟨"BlindPost$Land", "meetingsOf", "(I)I"⟩, 12) := ⟨⟨by decide +kernel, by decide +kernel⟩, List.mem_of_getElem? (i := 24) (by decide +kernel), List.mem_of_getElem? (i := 408) (by decide +kernel), List.mem_of_getElem? (i := 409) (by decide +kernel)⟩
theorem lw_p10 : lw_okq (⟨"BlindPost$Land", "lettersWith", "(I)I"⟩, 12) := ⟨⟨by decide +kernel, by decide +kernel⟩, List.mem_of_getElem? (i := 24) (by decide +kernel), List.mem_of_getElem? (i := 412) (by decide +kernel), List.mem_of_getElem? (i := 413) (by decide +kernel)⟩
theorem lw_p11 : lw_okq (⟨"BlindPost$Land", "lettersGivenOnBy", "(I)I"⟩, 12) := ⟨⟨by decide +kernel, by decide +kernel⟩, List.mem_of_getElem? (i := 24) (by decide +kernel), List.mem_of_getElem? (i := 445) (by decide +kernel), List.mem_of_getElem? (i := 446) (by decide +kernel)⟩
theorem lw_p12 : lw_okq (⟨"BlindPost", "noPair", "(II)Z"⟩, 12) := ⟨⟨by decide +kernel, by decide +kernel⟩, List.mem_of_getElem? (i := 14) (by decide +kernel), List.mem_of_getElem? (i := 463) (by decide +kernel), List.mem_of_getElem? (i := 464) (by decide +kernel)⟩
theorem lw_p13 : lw_okq (⟨"BlindPost$Land", "takesBetween", "(ILBlindPost$Letter;)Z"⟩, 12) := ⟨⟨by decide +kernel, by decide +kernel⟩, List.mem_of_getElem? (i := 24) (by decide +kernel), List.mem_of_getElem? (i := 531) (by decide +kernel), List.mem_of_getElem? (i := 532) (by decide +kernel)⟩
theorem lw_p14 : lw_okq (⟨"BlindPost$Ways", "weighAhead", "(II)V"⟩, 6) := ⟨⟨by decide +kernel, by decide +kernel⟩, List.mem_of_getElem? (i := 139) (by decide +kernel), List.mem_of_getElem? (i := 612) (by decide +kernel), List.mem_of_getElem? (i := 613) (by decide +kernel)⟩
theorem lw_p15 : lw_okq (⟨"BlindPost$Ways", "leadsOn", "(III)Z"⟩, 6) := ⟨⟨by decide +kernel, by decide +kernel⟩, List.mem_of_getElem? (i := 139) (by decide +kernel), List.mem_of_getElem? (i := 617) (by decide +kernel), List.mem_of_getElem? (i := 618) (by decide +kernel)⟩
def lw_privs_1 : List (MethodName × Nat) := [(⟨"BlindPost", "found", "(I)I"⟩, 12), (⟨"BlindPost", "tell", "(I)I"⟩, 12), (⟨"BlindPost$Land", "tie", "(III)V"⟩, 12), (⟨"BlindPost$Reading", "takes", "(I)Z"⟩, 5), (⟨"BlindPost$Reading", "takesTongue", "(I)Z"⟩, 5), (⟨"BlindPost$Reading", "takesStart", "(I)Z"⟩, 5), (⟨"BlindPost$Reading", "takesOne", "(I)Z"⟩, 5), (⟨"BlindPost$Reading", "takesOther", "(I)Z"⟩, 5), (⟨"BlindPost$Reading", "takesTime", "(I)Z"⟩, 5), (⟨"BlindPost$Land", "meetingsOf", "(I)I"⟩, 12), (⟨"BlindPost$Land", "lettersWith", "(I)I"⟩, 12), (⟨"BlindPost$Land", "lettersGivenOnBy", "(I)I"⟩, 12), (⟨"BlindPost", "noPair", "(II)Z"⟩, 12), (⟨"BlindPost$Land", "takesBetween", "(ILBlindPost$Letter;)Z"⟩, 12), (⟨"BlindPost$Ways", "weighAhead", "(II)V"⟩, 6), (⟨"BlindPost$Ways", "leadsOn", "(III)Z"⟩, 6)]
theorem lw_r1 : ∀ q ∈ lw_privs_1, lw_okq q := List.forall_mem_cons.mpr ⟨lw_p0, List.forall_mem_cons.mpr ⟨lw_p1, List.forall_mem_cons.mpr ⟨lw_p2, List.forall_mem_cons.mpr ⟨lw_p3, List.forall_mem_cons.mpr ⟨lw_p4, List.forall_mem_cons.mpr ⟨lw_p5, List.forall_mem_cons.mpr ⟨lw_p6, List.forall_mem_cons.mpr ⟨lw_p7, List.forall_mem_cons.mpr ⟨lw_p8, List.forall_mem_cons.mpr ⟨lw_p9, List.forall_mem_cons.mpr ⟨lw_p10, List.forall_mem_cons.mpr ⟨lw_p11, List.forall_mem_cons.mpr ⟨lw_p12, List.forall_mem_cons.mpr ⟨lw_p13, List.forall_mem_cons.mpr ⟨lw_p14, List.forall_mem_cons.mpr ⟨lw_p15, fun _ h => absurd h List.not_mem_nil⟩⟩⟩⟩⟩⟩⟩⟩⟩⟩⟩⟩⟩⟩⟩⟩
theorem lw_p16 : lw_okq (⟨"BlindPost$Ways", "weightBy", "(I)I"⟩, 6) := ⟨⟨by decide +kernel, by decide +kernel⟩, List.mem_of_getElem? (i := 139) (by decide +kernel), List.mem_of_getElem? (i := 621) (by decide +kernel), List.mem_of_getElem? (i := 622) (by decide +kernel)⟩
theorem lw_p17 : lw_okq (⟨"BlindPost$Ways", "nextOn", "(III)I"⟩, 6) := ⟨⟨by decide +kernel, by decide +kernel⟩, List.mem_of_getElem? (i := 139) (by decide +kernel), List.mem_of_getElem? (i := 626) (by decide +kernel), List.mem_of_getElem? (i := 627) (by decide +kernel)⟩
theorem lw_p18 : lw_okq (⟨"BlindPost$Ways", "leadsOver", "(III)Z"⟩, 6) := ⟨⟨by decide +kernel, by decide +kernel⟩, List.mem_of_getElem? (i := 139) (by decide +kernel), List.mem_of_getElem? (i := 650) (by decide +kernel), List.mem_of_getElem? (i := 651) (by decide +kernel)⟩
theorem lw_p19 : lw_okq (⟨"BlindPost$Ways", "metByAny", "(I)I"⟩, 6) := ⟨⟨by decide +kernel, by decide +kernel⟩, List.mem_of_getElem? (i := 139) (by decide +kernel), List.mem_of_getElem? (i := 654) (by decide +kernel), List.mem_of_getElem? (i := 655) (by decide +kernel)⟩
theorem lw_p20 : lw_okq (⟨"BlindPost$Pairs", "writtenBy", "(II)I"⟩, 5) := ⟨⟨by decide +kernel, by decide +kernel⟩, List.mem_of_getElem? (i := 166) (by decide +kernel), List.mem_of_getElem? (i := 691) (by decide +kernel), List.mem_of_getElem? (i := 692) (by decide +kernel)⟩
theorem lw_p21 : lw_okq (⟨"BlindPost$Pairs", "choicesOfPairs", "()I"⟩, 5) := ⟨⟨by decide +kernel, by decide +kernel⟩, List.mem_of_getElem? (i := 166) (by decide +kernel), List.mem_of_getElem? (i := 742) (by decide +kernel), List.mem_of_getElem? (i := 743) (by decide +kernel)⟩
theorem lw_p22 : lw_okq (⟨"BlindPost$Pairs", "tonguesTo", "(I)I"⟩, 5) := ⟨⟨by decide +kernel, by decide +kernel⟩, List.mem_of_getElem? (i := 166) (by decide +kernel), List.mem_of_getElem? (i := 746) (by decide +kernel), List.mem_of_getElem? (i := 747) (by decide +kernel)⟩
theorem lw_p23 : lw_okq (⟨"BlindPost", "refusedPairs", "(I)I"⟩, 12) := ⟨⟨by decide +kernel, by decide +kernel⟩, List.mem_of_getElem? (i := 14) (by decide +kernel), List.mem_of_getElem? (i := 758) (by decide +kernel), List.mem_of_getElem? (i := 759) (by decide +kernel)⟩
theorem lw_p24 : lw_okq (⟨"BlindPost", "sheetsThere", "([LBlindPost$Sheet;)I"⟩, 12) := ⟨⟨by decide +kernel, by decide +kernel⟩, List.mem_of_getElem? (i := 14) (by decide +kernel), List.mem_of_getElem? (i := 813) (by decide +kernel), List.mem_of_getElem? (i := 814) (by decide +kernel)⟩
theorem lw_p25 : lw_okq (⟨"BlindPost", "landsKept", "()I"⟩, 12) := ⟨⟨by decide +kernel, by decide +kernel⟩, List.mem_of_getElem? (i := 14) (by decide +kernel), List.mem_of_getElem? (i := 817) (by decide +kernel), List.mem_of_getElem? (i := 818) (by decide +kernel)⟩
theorem lw_p26 : lw_okq (⟨"BlindPostModel", "meetWith", "(I)I"⟩, 33) := ⟨⟨by decide +kernel, by decide +kernel⟩, List.mem_of_getElem? (i := 847) (by decide +kernel), List.mem_of_getElem? (i := 963) (by decide +kernel), List.mem_of_getElem? (i := 964) (by decide +kernel)⟩
theorem lw_p27 : lw_okq (⟨"BlindPostModel", "setRow", "(III)V"⟩, 33) := ⟨⟨by decide +kernel, by decide +kernel⟩, List.mem_of_getElem? (i := 847) (by decide +kernel), List.mem_of_getElem? (i := 967) (by decide +kernel), List.mem_of_getElem? (i := 968) (by decide +kernel)⟩
theorem lw_p28 : lw_okq (⟨"BlindPostModel", "askedRow", "(I)I"⟩, 33) := ⟨⟨by decide +kernel, by decide +kernel⟩, List.mem_of_getElem? (i := 847) (by decide +kernel), List.mem_of_getElem? (i := 975) (by decide +kernel), List.mem_of_getElem? (i := 976) (by decide +kernel)⟩
theorem lw_p29 : lw_okq (⟨"BlindPostModel", "rowAt", "(II)I"⟩, 33) := ⟨⟨by decide +kernel, by decide +kernel⟩, List.mem_of_getElem? (i := 847) (by decide +kernel), List.mem_of_getElem? (i := 979) (by decide +kernel), List.mem_of_getElem? (i := 980) (by decide +kernel)⟩
theorem lw_p30 : lw_okq (⟨"BlindPostModel", "ask", "(II)I"⟩, 33) := ⟨⟨by decide +kernel, by decide +kernel⟩, List.mem_of_getElem? (i := 847) (by decide +kernel), List.mem_of_getElem? (i := 983) (by decide +kernel), List.mem_of_getElem? (i := 984) (by decide +kernel)⟩
theorem lw_p31 : lw_okq (⟨"BlindPostModel", "askedText", "(I)I"⟩, 33) := ⟨⟨by decide +kernel, by decide +kernel⟩, List.mem_of_getElem? (i := 847) (by decide +kernel), List.mem_of_getElem? (i := 1015) (by decide +kernel), List.mem_of_getElem? (i := 1016) (by decide +kernel)⟩
def lw_privs_2 : List (MethodName × Nat) := [(⟨"BlindPost$Ways", "weightBy", "(I)I"⟩, 6), (⟨"BlindPost$Ways", "nextOn", "(III)I"⟩, 6), (⟨"BlindPost$Ways", "leadsOver", "(III)Z"⟩, 6), (⟨"BlindPost$Ways", "metByAny", "(I)I"⟩, 6), (⟨"BlindPost$Pairs", "writtenBy", "(II)I"⟩, 5), (⟨"BlindPost$Pairs", "choicesOfPairs", "()I"⟩, 5), (⟨"BlindPost$Pairs", "tonguesTo", "(I)I"⟩, 5), (⟨"BlindPost", "refusedPairs", "(I)I"⟩, 12), (⟨"BlindPost", "sheetsThere", "([LBlindPost$Sheet;)I"⟩, 12), (⟨"BlindPost", "landsKept", "()I"⟩, 12), (⟨"BlindPostModel", "meetWith", "(I)I"⟩, 33), (⟨"BlindPostModel", "setRow", "(III)V"⟩, 33), (⟨"BlindPostModel", "askedRow", "(I)I"⟩, 33), (⟨"BlindPostModel", "rowAt", "(II)I"⟩, 33), (⟨"BlindPostModel", "ask", "(II)I"⟩, 33), (⟨"BlindPostModel", "askedText", "(I)I"⟩, 33)]
theorem lw_r2 : ∀ q ∈ lw_privs_2, lw_okq q := List.forall_mem_cons.mpr ⟨lw_p16, List.forall_mem_cons.mpr ⟨lw_p17, List.forall_mem_cons.mpr ⟨lw_p18, List.forall_mem_cons.mpr ⟨lw_p19, List.forall_mem_cons.mpr ⟨lw_p20, List.forall_mem_cons.mpr ⟨lw_p21, List.forall_mem_cons.mpr ⟨lw_p22, List.forall_mem_cons.mpr ⟨lw_p23, List.forall_mem_cons.mpr ⟨lw_p24, List.forall_mem_cons.mpr ⟨lw_p25, List.forall_mem_cons.mpr ⟨lw_p26, List.forall_mem_cons.mpr ⟨lw_p27, List.forall_mem_cons.mpr ⟨lw_p28, List.forall_mem_cons.mpr ⟨lw_p29, List.forall_mem_cons.mpr ⟨lw_p30, List.forall_mem_cons.mpr ⟨lw_p31, fun _ h => absurd h List.not_mem_nil⟩⟩⟩⟩⟩⟩⟩⟩⟩⟩⟩⟩⟩⟩⟩⟩
theorem lw_p32 : lw_okq (⟨"BlindPostModel", "goesOn", "(I)I"⟩, 33) := ⟨⟨by decide +kernel, by decide +kernel⟩, List.mem_of_getElem? (i := 847) (by decide +kernel), List.mem_of_getElem? (i := 1023) (by decide +kernel), List.mem_of_getElem? (i := 1024) (by decide +kernel)⟩
theorem lw_p33 : lw_okq (⟨"BlindPostModel", "here", "(I)I"⟩, 33) := ⟨⟨by decide +kernel, by decide +kernel⟩, List.mem_of_getElem? (i := 847) (by decide +kernel), List.mem_of_getElem? (i := 1027) (by decide +kernel), List.mem_of_getElem? (i := 1028) (by decide +kernel)⟩
theorem lw_p34 : lw_okq (⟨"BlindPostModel", "readsMeeting", "(I)Z"⟩, 33) := ⟨⟨by decide +kernel, by decide +kernel⟩, List.mem_of_getElem? (i := 847) (by decide +kernel), List.mem_of_getElem? (i := 1031) (by decide +kernel), List.mem_of_getElem? (i := 1032) (by decide +kernel)⟩
theorem lw_p35 : lw_okq (⟨"BlindPostModel", "readsHand", "(I)Z"⟩, 33) := ⟨⟨by decide +kernel, by decide +kernel⟩, List.mem_of_getElem? (i := 847) (by decide +kernel), List.mem_of_getElem? (i := 1035) (by decide +kernel), List.mem_of_getElem? (i := 1036) (by decide +kernel)⟩
theorem lw_p36 : lw_okq (⟨"BlindPostModel", "isOne", "(I)Z"⟩, 33) := ⟨⟨by decide +kernel, by decide +kernel⟩, List.mem_of_getElem? (i := 847) (by decide +kernel), List.mem_of_getElem? (i := 1050) (by decide +kernel), List.mem_of_getElem? (i := 1051) (by decide +kernel)⟩
theorem lw_p37 : lw_okq (⟨"BlindPostModel", "handOf", "(II)I"⟩, 33) := ⟨⟨by decide +kernel, by decide +kernel⟩, List.mem_of_getElem? (i := 847) (by decide +kernel), List.mem_of_getElem? (i := 1054) (by decide +kernel), List.mem_of_getElem? (i := 1055) (by decide +kernel)⟩
theorem lw_p38 : lw_okq (⟨"BlindPostModel", "holderOf", "(I)I"⟩, 33) := ⟨⟨by decide +kernel, by decide +kernel⟩, List.mem_of_getElem? (i := 847) (by decide +kernel), List.mem_of_getElem? (i := 1058) (by decide +kernel), List.mem_of_getElem? (i := 1059) (by decide +kernel)⟩
theorem lw_p39 : lw_okq (⟨"BlindPostModel", "letterOf", "(II)I"⟩, 33) := ⟨⟨by decide +kernel, by decide +kernel⟩, List.mem_of_getElem? (i := 847) (by decide +kernel), List.mem_of_getElem? (i := 1062) (by decide +kernel), List.mem_of_getElem? (i := 1063) (by decide +kernel)⟩
theorem lw_p40 : lw_okq (⟨"BlindPostModel", "isThere", "(I)Z"⟩, 33) := ⟨⟨by decide +kernel, by decide +kernel⟩, List.mem_of_getElem? (i := 847) (by decide +kernel), List.mem_of_getElem? (i := 1066) (by decide +kernel), List.mem_of_getElem? (i := 1067) (by decide +kernel)⟩
theorem lw_p41 : lw_okq (⟨"BlindPostModel", "isA", "(II)Z"⟩, 33) := ⟨⟨by decide +kernel, by decide +kernel⟩, List.mem_of_getElem? (i := 847) (by decide +kernel), List.mem_of_getElem? (i := 1074) (by decide +kernel), List.mem_of_getElem? (i := 1075) (by decide +kernel)⟩
theorem lw_p42 : lw_okq (⟨"BlindPostModel", "barsOf", "(I)I"⟩, 33) := ⟨⟨by decide +kernel, by decide +kernel⟩, List.mem_of_getElem? (i := 847) (by decide +kernel), List.mem_of_getElem? (i := 1081) (by decide +kernel), List.mem_of_getElem? (i := 1082) (by decide +kernel)⟩
theorem lw_p43 : lw_okq (⟨"BlindPostModel", "givenOn", "(I)I"⟩, 33) := ⟨⟨by decide +kernel, by decide +kernel⟩, List.mem_of_getElem? (i := 847) (by decide +kernel), List.mem_of_getElem? (i := 1085) (by decide +kernel), List.mem_of_getElem? (i := 1086) (by decide +kernel)⟩
theorem lw_p44 : lw_okq (⟨"BlindPostModel", "metBy", "(II)I"⟩, 33) := ⟨⟨by decide +kernel, by decide +kernel⟩, List.mem_of_getElem? (i := 847) (by decide +kernel), List.mem_of_getElem? (i := 1089) (by decide +kernel), List.mem_of_getElem? (i := 1090) (by decide +kernel)⟩
theorem lw_p45 : lw_okq (⟨"BlindPostModel", "areTwo", "(II)Z"⟩, 33) := ⟨⟨by decide +kernel, by decide +kernel⟩, List.mem_of_getElem? (i := 847) (by decide +kernel), List.mem_of_getElem? (i := 1104) (by decide +kernel), List.mem_of_getElem? (i := 1105) (by decide +kernel)⟩
theorem lw_p46 : lw_okq (⟨"BlindPostModel", "mayCarry", "(II)Z"⟩, 33) := ⟨⟨by decide +kernel, by decide +kernel⟩, List.mem_of_getElem? (i := 847) (by decide +kernel), List.mem_of_getElem? (i := 1119) (by decide +kernel), List.mem_of_getElem? (i := 1120) (by decide +kernel)⟩
theorem lw_p47 : lw_okq (⟨"BlindPostModel", "writes", "(III)Z"⟩, 33) := ⟨⟨by decide +kernel, by decide +kernel⟩, List.mem_of_getElem? (i := 847) (by decide +kernel), List.mem_of_getElem? (i := 1131) (by decide +kernel), List.mem_of_getElem? (i := 1132) (by decide +kernel)⟩
def lw_privs_3 : List (MethodName × Nat) := [(⟨"BlindPostModel", "goesOn", "(I)I"⟩, 33), (⟨"BlindPostModel", "here", "(I)I"⟩, 33), (⟨"BlindPostModel", "readsMeeting", "(I)Z"⟩, 33), (⟨"BlindPostModel", "readsHand", "(I)Z"⟩, 33), (⟨"BlindPostModel", "isOne", "(I)Z"⟩, 33), (⟨"BlindPostModel", "handOf", "(II)I"⟩, 33), (⟨"BlindPostModel", "holderOf", "(I)I"⟩, 33), (⟨"BlindPostModel", "letterOf", "(II)I"⟩, 33), (⟨"BlindPostModel", "isThere", "(I)Z"⟩, 33), (⟨"BlindPostModel", "isA", "(II)Z"⟩, 33), (⟨"BlindPostModel", "barsOf", "(I)I"⟩, 33), (⟨"BlindPostModel", "givenOn", "(I)I"⟩, 33), (⟨"BlindPostModel", "metBy", "(II)I"⟩, 33), (⟨"BlindPostModel", "areTwo", "(II)Z"⟩, 33), (⟨"BlindPostModel", "mayCarry", "(II)Z"⟩, 33), (⟨"BlindPostModel", "writes", "(III)Z"⟩, 33)]
theorem lw_r3 : ∀ q ∈ lw_privs_3, lw_okq q := List.forall_mem_cons.mpr ⟨lw_p32, List.forall_mem_cons.mpr ⟨lw_p33, List.forall_mem_cons.mpr ⟨lw_p34, List.forall_mem_cons.mpr ⟨lw_p35, List.forall_mem_cons.mpr ⟨lw_p36, List.forall_mem_cons.mpr ⟨lw_p37, List.forall_mem_cons.mpr ⟨lw_p38, List.forall_mem_cons.mpr ⟨lw_p39, List.forall_mem_cons.mpr ⟨lw_p40, List.forall_mem_cons.mpr ⟨lw_p41, List.forall_mem_cons.mpr ⟨lw_p42, List.forall_mem_cons.mpr ⟨lw_p43, List.forall_mem_cons.mpr ⟨lw_p44, List.forall_mem_cons.mpr ⟨lw_p45, List.forall_mem_cons.mpr ⟨lw_p46, List.forall_mem_cons.mpr ⟨lw_p47, fun _ h => absurd h List.not_mem_nil⟩⟩⟩⟩⟩⟩⟩⟩⟩⟩⟩⟩⟩⟩⟩⟩
theorem lw_p48 : lw_okq (⟨"BlindPostModel", "askedLetter", "(I)I"⟩, 33) := ⟨⟨by decide +kernel, by decide +kernel⟩, List.mem_of_getElem? (i := 847) (by decide +kernel), List.mem_of_getElem? (i := 1139) (by decide +kernel), List.mem_of_getElem? (i := 1140) (by decide +kernel)⟩
theorem lw_p49 : lw_okq (⟨"BlindPostModel", "givable", "(I)I"⟩, 33) := ⟨⟨by decide +kernel, by decide +kernel⟩, List.mem_of_getElem? (i := 847) (by decide +kernel), List.mem_of_getElem? (i := 1143) (by decide +kernel), List.mem_of_getElem? (i := 1144) (by decide +kernel)⟩
theorem lw_p50 : lw_okq (⟨"BlindPostModel", "hadBy", "(I)I"⟩, 33) := ⟨⟨by decide +kernel, by decide +kernel⟩, List.mem_of_getElem? (i := 847) (by decide +kernel), List.mem_of_getElem? (i := 1147) (by decide +kernel), List.mem_of_getElem? (i := 1148) (by decide +kernel)⟩
theorem lw_p51 : lw_okq (⟨"BlindPostModel", "takes", "(III)Z"⟩, 33) := ⟨⟨by decide +kernel, by decide +kernel⟩, List.mem_of_getElem? (i := 847) (by decide +kernel), List.mem_of_getElem? (i := 1151) (by decide +kernel), List.mem_of_getElem? (i := 1152) (by decide +kernel)⟩
theorem lw_p52 : lw_okq (⟨"BlindPostModel", "giveTo", "(II)I"⟩, 33) := ⟨⟨by decide +kernel, by decide +kernel⟩, List.mem_of_getElem? (i := 847) (by decide +kernel), List.mem_of_getElem? (i := 1158) (by decide +kernel), List.mem_of_getElem? (i := 1159) (by decide +kernel)⟩
theorem lw_p53 : lw_okq (⟨"BlindPostModel", "isAsk", "(III)Z"⟩, 33) := ⟨⟨by decide +kernel, by decide +kernel⟩, List.mem_of_getElem? (i := 847) (by decide +kernel), List.mem_of_getElem? (i := 1191) (by decide +kernel), List.mem_of_getElem? (i := 1192) (by decide +kernel)⟩
theorem lw_p54 : lw_okq (⟨"BlindPostModel", "soonOf", "(IIII)I"⟩, 33) := ⟨⟨by decide +kernel, by decide +kernel⟩, List.mem_of_getElem? (i := 847) (by decide +kernel), List.mem_of_getElem? (i := 1195) (by decide +kernel), List.mem_of_getElem? (i := 1196) (by decide +kernel)⟩
theorem lw_p55 : lw_okq (⟨"BlindPostModel", "setWays", "(IIIZ)V"⟩, 33) := ⟨⟨by decide +kernel, by decide +kernel⟩, List.mem_of_getElem? (i := 847) (by decide +kernel), List.mem_of_getElem? (i := 1203) (by decide +kernel), List.mem_of_getElem? (i := 1204) (by decide +kernel)⟩
theorem lw_p56 : lw_okq (⟨"BlindPostModel", "wayOn", "(IIIIIZ)V"⟩, 33) := ⟨⟨by decide +kernel, by decide +kernel⟩, List.mem_of_getElem? (i := 847) (by decide +kernel), List.mem_of_getElem? (i := 1208) (by decide +kernel), List.mem_of_getElem? (i := 1209) (by decide +kernel)⟩
theorem lw_p57 : lw_okq (⟨"BlindPostModel", "meetWay", "(III)V"⟩, 33) := ⟨⟨by decide +kernel, by decide +kernel⟩, List.mem_of_getElem? (i := 847) (by decide +kernel), List.mem_of_getElem? (i := 1212) (by decide +kernel), List.mem_of_getElem? (i := 1213) (by decide +kernel)⟩
theorem lw_p58 : lw_okq (⟨"BlindPostModel", "costOf", "(II)I"⟩, 33) := ⟨⟨by decide +kernel, by decide +kernel⟩, List.mem_of_getElem? (i := 847) (by decide +kernel), List.mem_of_getElem? (i := 1216) (by decide +kernel), List.mem_of_getElem? (i := 1217) (by decide +kernel)⟩
theorem lw_p59 : lw_okq (⟨"BlindPostModel", "packOn", "(II)I"⟩, 33) := ⟨⟨by decide +kernel, by decide +kernel⟩, List.mem_of_getElem? (i := 847) (by decide +kernel), List.mem_of_getElem? (i := 1232) (by decide +kernel), List.mem_of_getElem? (i := 1233) (by decide +kernel)⟩
theorem lw_p60 : lw_okq (⟨"BlindPostModel", "isWayIn", "(III)Z"⟩, 33) := ⟨⟨by decide +kernel, by decide +kernel⟩, List.mem_of_getElem? (i := 847) (by decide +kernel), List.mem_of_getElem? (i := 1248) (by decide +kernel), List.mem_of_getElem? (i := 1249) (by decide +kernel)⟩
theorem lw_p61 : lw_okq (⟨"BlindPostModel", "cutNow", "()I"⟩, 33) := ⟨⟨by decide +kernel, by decide +kernel⟩, List.mem_of_getElem? (i := 847) (by decide +kernel), List.mem_of_getElem? (i := 1256) (by decide +kernel), List.mem_of_getElem? (i := 1257) (by decide +kernel)⟩
theorem lw_p62 : lw_okq (⟨"BlindPostModel", "tonguesOf", "(II)I"⟩, 33) := ⟨⟨by decide +kernel, by decide +kernel⟩, List.mem_of_getElem? (i := 847) (by decide +kernel), List.mem_of_getElem? (i := 1260) (by decide +kernel), List.mem_of_getElem? (i := 1261) (by decide +kernel)⟩
theorem lw_p63 : lw_okq (⟨"BlindPostModel", "cutIf", "(II)I"⟩, 33) := ⟨⟨by decide +kernel, by decide +kernel⟩, List.mem_of_getElem? (i := 847) (by decide +kernel), List.mem_of_getElem? (i := 1268) (by decide +kernel), List.mem_of_getElem? (i := 1269) (by decide +kernel)⟩
def lw_privs_4 : List (MethodName × Nat) := [(⟨"BlindPostModel", "askedLetter", "(I)I"⟩, 33), (⟨"BlindPostModel", "givable", "(I)I"⟩, 33), (⟨"BlindPostModel", "hadBy", "(I)I"⟩, 33), (⟨"BlindPostModel", "takes", "(III)Z"⟩, 33), (⟨"BlindPostModel", "giveTo", "(II)I"⟩, 33), (⟨"BlindPostModel", "isAsk", "(III)Z"⟩, 33), (⟨"BlindPostModel", "soonOf", "(IIII)I"⟩, 33), (⟨"BlindPostModel", "setWays", "(IIIZ)V"⟩, 33), (⟨"BlindPostModel", "wayOn", "(IIIIIZ)V"⟩, 33), (⟨"BlindPostModel", "meetWay", "(III)V"⟩, 33), (⟨"BlindPostModel", "costOf", "(II)I"⟩, 33), (⟨"BlindPostModel", "packOn", "(II)I"⟩, 33), (⟨"BlindPostModel", "isWayIn", "(III)Z"⟩, 33), (⟨"BlindPostModel", "cutNow", "()I"⟩, 33), (⟨"BlindPostModel", "tonguesOf", "(II)I"⟩, 33), (⟨"BlindPostModel", "cutIf", "(II)I"⟩, 33)]
theorem lw_r4 : ∀ q ∈ lw_privs_4, lw_okq q := List.forall_mem_cons.mpr ⟨lw_p48, List.forall_mem_cons.mpr ⟨lw_p49, List.forall_mem_cons.mpr ⟨lw_p50, List.forall_mem_cons.mpr ⟨lw_p51, List.forall_mem_cons.mpr ⟨lw_p52, List.forall_mem_cons.mpr ⟨lw_p53, List.forall_mem_cons.mpr ⟨lw_p54, List.forall_mem_cons.mpr ⟨lw_p55, List.forall_mem_cons.mpr ⟨lw_p56, List.forall_mem_cons.mpr ⟨lw_p57, List.forall_mem_cons.mpr ⟨lw_p58, List.forall_mem_cons.mpr ⟨lw_p59, List.forall_mem_cons.mpr ⟨lw_p60, List.forall_mem_cons.mpr ⟨lw_p61, List.forall_mem_cons.mpr ⟨lw_p62, List.forall_mem_cons.mpr ⟨lw_p63, fun _ h => absurd h List.not_mem_nil⟩⟩⟩⟩⟩⟩⟩⟩⟩⟩⟩⟩⟩⟩⟩⟩
theorem lw_p64 : lw_okq (⟨"BlindPostModel", "askedPairs", "(I)I"⟩, 33) := ⟨⟨by decide +kernel, by decide +kernel⟩, List.mem_of_getElem? (i := 847) (by decide +kernel), List.mem_of_getElem? (i := 1288) (by decide +kernel), List.mem_of_getElem? (i := 1289) (by decide +kernel)⟩
theorem lw_p65 : lw_okq (⟨"BlindPostModel", "isRead", "(II)Z"⟩, 33) := ⟨⟨by decide +kernel, by decide +kernel⟩, List.mem_of_getElem? (i := 847) (by decide +kernel), List.mem_of_getElem? (i := 1292) (by decide +kernel), List.mem_of_getElem? (i := 1293) (by decide +kernel)⟩
theorem lw_p66 : lw_okq (⟨"BlindPostModel", "tells", "(I)I"⟩, 33) := ⟨⟨by decide +kernel, by decide +kernel⟩, List.mem_of_getElem? (i := 847) (by decide +kernel), List.mem_of_getElem? (i := 1330) (by decide +kernel), List.mem_of_getElem? (i := 1331) (by decide +kernel)⟩
theorem lw_p67 : lw_okq (⟨"BlindPostModel", "mix", "(I)V"⟩, 33) := ⟨⟨by decide +kernel, by decide +kernel⟩, List.mem_of_getElem? (i := 847) (by decide +kernel), List.mem_of_getElem? (i := 1347) (by decide +kernel), List.mem_of_getElem? (i := 1348) (by decide +kernel)⟩
theorem lw_p68 : lw_okq (⟨"BlindPostModel", "mixLand", "()V"⟩, 33) := ⟨⟨by decide +kernel, by decide +kernel⟩, List.mem_of_getElem? (i := 847) (by decide +kernel), List.mem_of_getElem? (i := 1352) (by decide +kernel), List.mem_of_getElem? (i := 1353) (by decide +kernel)⟩
def lw_privs_5 : List (MethodName × Nat) := [(⟨"BlindPostModel", "askedPairs", "(I)I"⟩, 33), (⟨"BlindPostModel", "isRead", "(II)Z"⟩, 33), (⟨"BlindPostModel", "tells", "(I)I"⟩, 33), (⟨"BlindPostModel", "mix", "(I)V"⟩, 33), (⟨"BlindPostModel", "mixLand", "()V"⟩, 33)]
theorem lw_r5 : ∀ q ∈ lw_privs_5, lw_okq q := List.forall_mem_cons.mpr ⟨lw_p64, List.forall_mem_cons.mpr ⟨lw_p65, List.forall_mem_cons.mpr ⟨lw_p66, List.forall_mem_cons.mpr ⟨lw_p67, List.forall_mem_cons.mpr ⟨lw_p68, fun _ h => absurd h List.not_mem_nil⟩⟩⟩⟩⟩
def lw_privs : List (MethodName × Nat) := lw_privs_1 ++ (lw_privs_2 ++ (lw_privs_3 ++ (lw_privs_4 ++ (lw_privs_5))))
def lw_tbl : List Cond := k2_sels lw_privs ++ tables_1
theorem lw_privs_ok : ∀ q ∈ lw_privs, lw_okq q := by
  show ∀ q ∈ lw_privs_1 ++ (lw_privs_2 ++ (lw_privs_3 ++ (lw_privs_4 ++ (lw_privs_5)))), lw_okq q
  exact List.forall_mem_append.mpr ⟨lw_r1, List.forall_mem_append.mpr ⟨lw_r2, List.forall_mem_append.mpr ⟨lw_r3, List.forall_mem_append.mpr ⟨lw_r4, lw_r5⟩⟩⟩⟩
end
section
def RX0 : String := "BlindPost$Land"
def TX0 : u_T := fun k => match k with
  | 0 => ("BlindPost$Land", "kinds", "[I", true)
  | 1 => ("BlindPost$Land", "known", "[I", true)
  | 2 => ("BlindPost$Land", "ones", "[I", true)
  | 3 => ("BlindPost$Land", "others", "[I", true)
  | 4 => ("BlindPost$Land", "times", "[I", true)
  | 5 => ("BlindPost$Land", "metIn", "[[I", true)
  | 6 => ("BlindPost$Land", "metEver", "[I", true)
  | 7 => ("BlindPost$Land", "letters", "[LBlindPost$Letter;", true)
  | 8 => ("BlindPost$Land", "handCount", "I", false)
  | 9 => ("BlindPost$Land", "meetingCount", "I", false)
  | 10 => ("BlindPost$Land", "letterCount", "I", false)
  | _ => ("BlindPost$Land", "hour", "I", false)
def tyX0 : Nat → FieldType := fun k => match k with
  | 0 => .array .int
  | 1 => .array .int
  | 2 => .array .int
  | 3 => .array .int
  | 4 => .array .int
  | 5 => .array (.array .int)
  | 6 => .array .int
  | 7 => .array (.object "BlindPost$Letter")
  | 8 => .int
  | 9 => .int
  | 10 => .int
  | _ => .int
abbrev wsX00 : List Cond := u_ws RX0 TX0 12
theorem nmX0 : ∀ a, a < 12 → ∀ b, b < 12 → a ≠ b → (TX0 a).2.1 ≠ (TX0 b).2.1 := by decide +kernel
theorem tyX0_ok : ∀ k, k < 12 → parseFieldDescriptor (TX0 k).2.2.1 = some (tyX0 k) := by decide +kernel
def RX1 : String := "BlindPost$Letter"
def TX1 : u_T := fun k => match k with
  | 0 => ("BlindPost$Letter", "through", "[I", true)
  | 1 => ("BlindPost$Letter", "came", "[I", true)
  | 2 => ("BlindPost$Letter", "length", "I", false)
  | 3 => ("BlindPost$Letter", "to", "I", false)
  | _ => ("BlindPost$Letter", "tongues", "I", false)
def tyX1 : Nat → FieldType := fun k => match k with
  | 0 => .array .int
  | 1 => .array .int
  | 2 => .int
  | 3 => .int
  | _ => .int
abbrev wsX10 : List Cond := u_ws RX1 TX1 5
theorem nmX1 : ∀ a, a < 5 → ∀ b, b < 5 → a ≠ b → (TX1 a).2.1 ≠ (TX1 b).2.1 := by decide +kernel
theorem tyX1_ok : ∀ k, k < 5 → parseFieldDescriptor (TX1 k).2.2.1 = some (tyX1 k) := by decide +kernel
def RX2 : String := "BlindPost$Pairs"
def TX2 : u_T := fun k => match k with
  | 0 => ("BlindPost$Pairs", "land", "LBlindPost$Land;", true)
  | 1 => ("BlindPost$Pairs", "ways", "LBlindPost$Ways;", true)
  | 2 => ("BlindPost$Pairs", "reached", "[I", true)
  | 3 => ("BlindPost$Pairs", "all", "I", false)
  | _ => ("BlindPost$Pairs", "cut", "I", false)
def tyX2 : Nat → FieldType := fun k => match k with
  | 0 => .object "BlindPost$Land"
  | 1 => .object "BlindPost$Ways"
  | 2 => .array .int
  | 3 => .int
  | _ => .int
abbrev wsX20 : List Cond := u_ws RX2 TX2 5
theorem nmX2 : ∀ a, a < 5 → ∀ b, b < 5 → a ≠ b → (TX2 a).2.1 ≠ (TX2 b).2.1 := by decide +kernel
theorem tyX2_ok : ∀ k, k < 5 → parseFieldDescriptor (TX2 k).2.2.1 = some (tyX2 k) := by decide +kernel
def RX3 : String := "BlindPost$Reading"
def TX3 : u_T := fun k => match k with
  | 0 => ("BlindPost$Reading", "drawn", "LBlindPost$Land;", true)
  | 1 => ("BlindPost$Reading", "stage", "I", false)
  | 2 => ("BlindPost$Reading", "lastFigure", "I", false)
  | 3 => ("BlindPost$Reading", "one", "I", false)
  | _ => ("BlindPost$Reading", "other", "I", false)
def tyX3 : Nat → FieldType := fun k => match k with
  | 0 => .object "BlindPost$Land"
  | 1 => .int
  | 2 => .int
  | 3 => .int
  | _ => .int
abbrev wsX30 : List Cond := u_ws RX3 TX3 5
theorem nmX3 : ∀ a, a < 5 → ∀ b, b < 5 → a ≠ b → (TX3 a).2.1 ≠ (TX3 b).2.1 := by decide +kernel
theorem tyX3_ok : ∀ k, k < 5 → parseFieldDescriptor (TX3 k).2.2.1 = some (tyX3 k) := by decide +kernel
def RX4 : String := "BlindPost$Sheet"
def TX4 : u_T := fun k => match k with
  | 0 => ("BlindPost$Sheet", "places", "[I", true)
  | _ => ("BlindPost$Sheet", "size", "I", false)
def tyX4 : Nat → FieldType := fun k => match k with
  | 0 => .array .int
  | _ => .int
abbrev wsX40 : List Cond := u_ws RX4 TX4 2
theorem nmX4 : ∀ a, a < 2 → ∀ b, b < 2 → a ≠ b → (TX4 a).2.1 ≠ (TX4 b).2.1 := by decide +kernel
theorem tyX4_ok : ∀ k, k < 2 → parseFieldDescriptor (TX4 k).2.2.1 = some (tyX4 k) := by decide +kernel
def RX5 : String := "BlindPost$Ways"
def TX5 : u_T := fun k => match k with
  | 0 => ("BlindPost$Ways", "land", "LBlindPost$Land;", true)
  | 1 => ("BlindPost$Ways", "prices", "[I", true)
  | 2 => ("BlindPost$Ways", "ahead", "[I", true)
  | 3 => ("BlindPost$Ways", "mutes", "I", false)
  | 4 => ("BlindPost$Ways", "through", "[I", true)
  | _ => ("BlindPost$Ways", "length", "I", false)
def tyX5 : Nat → FieldType := fun k => match k with
  | 0 => .object "BlindPost$Land"
  | 1 => .array .int
  | 2 => .array .int
  | 3 => .int
  | 4 => .array .int
  | _ => .int
abbrev wsX50 : List Cond := u_ws RX5 TX5 6
theorem nmX5 : ∀ a, a < 6 → ∀ b, b < 6 → a ≠ b → (TX5 a).2.1 ≠ (TX5 b).2.1 := by decide +kernel
theorem tyX5_ok : ∀ k, k < 6 → parseFieldDescriptor (TX5 k).2.2.1 = some (tyX5 k) := by decide +kernel
def RX6 : String := "BlindPost"
def TX6 : u_T := fun k => match k with
  | 0 => ("BlindPost", "rows", "[LBlindPost$Sheet;", true)
  | 1 => ("BlindPost", "texts", "[LBlindPost$Sheet;", true)
  | 2 => ("BlindPost", "land", "LBlindPost$Land;", true)
  | 3 => ("BlindPost", "drawn", "LBlindPost$Land;", true)
  | 4 => ("BlindPost", "kept", "[LBlindPost$Land;", true)
  | 5 => ("BlindPost", "isKept", "[Z", true)
  | 6 => ("BlindPost", "reading", "LBlindPost$Reading;", true)
  | 7 => ("BlindPost", "ways", "LBlindPost$Ways;", true)
  | 8 => ("BlindPost", "pairs", "LBlindPost$Pairs;", true)
  | 9 => ("BlindPost", "timesFound", "[I", true)
  | 10 => ("BlindPost", "lastFound", "I", false)
  | _ => ("BlindPost", "told", "I", false)
def tyX6 : Nat → FieldType := fun k => match k with
  | 0 => .array (.object "BlindPost$Sheet")
  | 1 => .array (.object "BlindPost$Sheet")
  | 2 => .object "BlindPost$Land"
  | 3 => .object "BlindPost$Land"
  | 4 => .array (.object "BlindPost$Land")
  | 5 => .array .boolean
  | 6 => .object "BlindPost$Reading"
  | 7 => .object "BlindPost$Ways"
  | 8 => .object "BlindPost$Pairs"
  | 9 => .array .int
  | 10 => .int
  | _ => .int
abbrev wsX60 : List Cond := u_ws RX6 TX6 12
theorem nmX6 : ∀ a, a < 12 → ∀ b, b < 12 → a ≠ b → (TX6 a).2.1 ≠ (TX6 b).2.1 := by decide +kernel
theorem tyX6_ok : ∀ k, k < 12 → parseFieldDescriptor (TX6 k).2.2.1 = some (tyX6 k) := by decide +kernel
def RX7 : String := "BlindPostModel"
def TX7 : u_T := fun k => match k with
  | 0 => ("BlindPostModel", "finding", "I", false)
  | 1 => ("BlindPostModel", "findings", "[I", true)
  | 2 => ("BlindPostModel", "asked", "I", false)
  | 3 => ("BlindPostModel", "sizes", "[I", true)
  | 4 => ("BlindPostModel", "rows", "[I", true)
  | 5 => ("BlindPostModel", "moving", "[I", true)
  | 6 => ("BlindPostModel", "lengths", "[I", true)
  | 7 => ("BlindPostModel", "texts", "[I", true)
  | 8 => ("BlindPostModel", "many", "I", false)
  | 9 => ("BlindPostModel", "kinds", "[I", true)
  | 10 => ("BlindPostModel", "known", "[I", true)
  | 11 => ("BlindPostModel", "meetMany", "I", false)
  | 12 => ("BlindPostModel", "meetings", "[I", true)
  | 13 => ("BlindPostModel", "hour", "I", false)
  | 14 => ("BlindPostModel", "letterMany", "I", false)
  | 15 => ("BlindPostModel", "letters", "[I", true)
  | 16 => ("BlindPostModel", "readAt", "I", false)
  | 17 => ("BlindPostModel", "readMany", "I", false)
  | 18 => ("BlindPostModel", "readMeets", "I", false)
  | 19 => ("BlindPostModel", "readKinds", "[I", true)
  | 20 => ("BlindPostModel", "readKnown", "[I", true)
  | 21 => ("BlindPostModel", "readMeetings", "[I", true)
  | 22 => ("BlindPostModel", "kept", "[I", true)
  | 23 => ("BlindPostModel", "way", "[I", true)
  | 24 => ("BlindPostModel", "bestWay", "[I", true)
  | 25 => ("BlindPostModel", "bestMany", "I", false)
  | 26 => ("BlindPostModel", "bestCost", "I", false)
  | 27 => ("BlindPostModel", "wayMany", "I", false)
  | 28 => ("BlindPostModel", "eachSet", "I", false)
  | 29 => ("BlindPostModel", "isWay", "[Z", true)
  | 30 => ("BlindPostModel", "pairMany", "I", false)
  | 31 => ("BlindPostModel", "pairTongues", "[I", true)
  | _ => ("BlindPostModel", "h0", "J", false)
def tyX7 : Nat → FieldType := fun k => match k with
  | 0 => .int
  | 1 => .array .int
  | 2 => .int
  | 3 => .array .int
  | 4 => .array .int
  | 5 => .array .int
  | 6 => .array .int
  | 7 => .array .int
  | 8 => .int
  | 9 => .array .int
  | 10 => .array .int
  | 11 => .int
  | 12 => .array .int
  | 13 => .int
  | 14 => .int
  | 15 => .array .int
  | 16 => .int
  | 17 => .int
  | 18 => .int
  | 19 => .array .int
  | 20 => .array .int
  | 21 => .array .int
  | 22 => .array .int
  | 23 => .array .int
  | 24 => .array .int
  | 25 => .int
  | 26 => .int
  | 27 => .int
  | 28 => .int
  | 29 => .array .boolean
  | 30 => .int
  | 31 => .array .int
  | _ => .long
abbrev wsX70 : List Cond := u_ws RX7 TX7 33
theorem nmX7 : ∀ a, a < 33 → ∀ b, b < 33 → a ≠ b → (TX7 a).2.1 ≠ (TX7 b).2.1 := by decide +kernel
theorem tyX7_ok : ∀ k, k < 33 → parseFieldDescriptor (TX7 k).2.2.1 = some (tyX7 k) := by decide +kernel
def RL : String := "BlindPostLaw"
abbrev vwCl : List vw_C := [(RX0, TX0, 12), (RX1, TX1, 5), (RX2, TX2, 5), (RX3, TX3, 5), (RX4, TX4, 2), (RX5, TX5, 6), (RX6, TX6, 12), (RX7, TX7, 33)]
end
section
/-! THE REFLECTED MACHINE: cells numbered from a base address; one instruction in CPS over abstract locals, stack and heap; answers are Option-valued. -/
/-- a cell with relative references: an array (its component type, length, contents) or an object (its class's number, fields) -/
abbrev GC : Type := (FieldType × vp_A) ⊕ (Nat × List Value)
def cv (B : Nat) : Value → Value
  | .ref a => .ref (B + a)
  | .int x => .int x
  | .long x => .long x
  | .float x => .float x
  | .double x => .double x
  | .null => .null
  | .retAddr x => .retAddr x
abbrev Res (Hp : Type) : Type := Option (Option Value × Hp)
/-- the heap's own operations -/
abbrev Ops (Hp : Type) : Type :=
  (Hp → Nat → Nat → Nat → (Int32 → Res Hp) → Res Hp) ×
  (Hp → Nat → Nat → Nat → (Nat → Res Hp) → Res Hp) ×
  (Hp → Nat → Nat → Nat → (Int64 → Res Hp) → Res Hp) ×
  (Hp → Nat → Nat → Nat → Int32 → (Hp → Res Hp) → Res Hp) ×
  (Hp → Nat → Nat → Nat → Int64 → (Hp → Res Hp) → Res Hp) ×
  (Hp → Nat → Nat → Nat → Nat → (Hp → Res Hp) → Res Hp) ×
  (Hp → Nat → (Nat → Res Hp) → Res Hp) ×
  (Hp → Nat → Int32 → (Int32 → Res Hp) → Res Hp) ×
  (Hp → Nat → Int32 → (Int32 → Res Hp) → Res Hp) ×
  (Hp → Nat → Int32 → (Nat → Res Hp) → Res Hp) ×
  (Hp → Nat → Int32 → Int32 → (Hp → Res Hp) → Res Hp) ×
  (Hp → Nat → Int32 → Int32 → (Hp → Res Hp) → Res Hp) ×
  (Hp → Nat → Int32 → Nat → (Hp → Res Hp) → Res Hp) ×
  (Hp → Nat → Int32 → Nat → Int32 → Int32 → (Hp → Res Hp) → Res Hp)
section OPS
variable {Hp : Type}
abbrev oGI (O : Ops Hp) := O.1
abbrev oGR (O : Ops Hp) := O.2.1
abbrev oGL (O : Ops Hp) := O.2.2.1
abbrev oPI (O : Ops Hp) := O.2.2.2.1
abbrev oPL (O : Ops Hp) := O.2.2.2.2.1
abbrev oPR (O : Ops Hp) := O.2.2.2.2.2.1
abbrev oLN (O : Ops Hp) := O.2.2.2.2.2.2.1
abbrev oAI (O : Ops Hp) := O.2.2.2.2.2.2.2.1
abbrev oAZ (O : Ops Hp) := O.2.2.2.2.2.2.2.2.1
abbrev oAR (O : Ops Hp) := O.2.2.2.2.2.2.2.2.2.1
abbrev oSI (O : Ops Hp) := O.2.2.2.2.2.2.2.2.2.2.1
abbrev oSZ (O : Ops Hp) := O.2.2.2.2.2.2.2.2.2.2.2.1
abbrev oSR (O : Ops Hp) := O.2.2.2.2.2.2.2.2.2.2.2.2.1
abbrev oCP (O : Ops Hp) := O.2.2.2.2.2.2.2.2.2.2.2.2.2
end OPS
/-- abstract locals: what is known at each place -/
abbrev Loca : Type := List (Option Value)
def lget : Loca → Nat → Option Value
  | [], _ => none
  | a :: _, 0 => a
  | _ :: t, i + 1 => lget t i
def lset : Loca → Nat → Option Value → Loca
  | [], _, _ => []
  | _ :: t, 0, v => v :: t
  | a :: t, i + 1, v => a :: lset t i v
/-- the place ahead holds no long: then a store here leaves it alone -/
def lfree : Loca → Nat → Bool
  | _, 0 => true
  | L, i + 1 => match lget L i with
    | some (.long _) => false
    | some (.double _) => false
    | _ => true
def lsto1 (L : Loca) (i : Nat) (v : Value) : Loca := lset L i (some v)
def lsto2 (L : Loca) (i : Nat) (v : Value) : Loca := lset (lset L (i + 1) none) i (some v)
/-- place, instruction, length, targets or numbers of what is linked, a constant -/
abbrev Ent : Type := Nat × Instr × Nat × List Nat × Value
def fetch : List Ent → Nat → Option (Instr × Nat × List Nat × Value)
  | [], _ => none
  | e :: t, pc => bif Nat.beq e.1 pc then some e.2 else fetch t pc
/-- a call's answer, by its kind -/
def bI {Hp ρ : Type} (r : Res Hp) (k : Int32 → Hp → Option ρ) : Option ρ := match r with
  | some (some (.int v), h) => k v h
  | _ => none
def bL {Hp ρ : Type} (r : Res Hp) (k : Int64 → Hp → Option ρ) : Option ρ := match r with
  | some (some (.long v), h) => k v h
  | _ => none
def bV {Hp ρ : Type} (r : Res Hp) (k : Hp → Option ρ) : Option ρ := match r with
  | some (none, h) => k h
  | _ => none
def retI {Hp : Type} (v : Int32) (h : Hp) : Res Hp := some (some (.int v), h)
def retL {Hp : Type} (v : Int64) (h : Hp) : Res Hp := some (some (.long v), h)
def retV {Hp : Type} (h : Hp) : Res Hp := some (none, h)
def retZ {Hp : Type} (v : Int32) (h : Hp) : Res Hp := if v = 0 then some (some (.int 0), h) else if v = 1 then some (some (.int 1), h) else none
/-- the arguments of a call: the top n of the stack, the first one lowest -/
def topn : Nat → List Value → List Value → Option (List Value × List Value)
  | 0, acc, st => some (acc, st)
  | n + 1, acc, v :: st => topn n (v :: acc) st
  | _ + 1, _, [] => none
def cats : List Value → Nat
  | [] => 0
  | v :: t => v.category + cats t
def fewc (st : List Value) : Bool := Nat.ble (cats st) 8
/-- a switch: pairs of key and target, the rest -/
def swc {Hp : Type} (x : Int32) : List Nat → Nat → (Nat → Res Hp) → Res Hp
  | k :: t :: r, d, κ => if x = Int32.ofNat k then κ t else swc x r d κ
  | _, d, κ => κ d
section STEP
variable {Hp : Type}
abbrev Kt (Hp : Type) : Type := Nat → Loca → List Value → Hp → Res Hp
def ldI (L : Loca) (i : Nat) (κ : Int32 → Res Hp) : Res Hp := match lget L i with
  | some (.int x) => κ x
  | _ => none
def ldL (L : Loca) (i : Nat) (κ : Int64 → Res Hp) : Res Hp := match lget L i with
  | some (.long x) => κ x
  | _ => none
def ldA (L : Loca) (i : Nat) (κ : Nat → Res Hp) : Res Hp := match lget L i with
  | some (.ref x) => κ x
  | _ => none
def on1 (L : Loca) (i : Nat) (v : Value) (κ : Loca → Res Hp) : Res Hp := bif lfree L i && Nat.ble (i + 1) L.length then κ (lsto1 L i v) else none
def on2 (L : Loca) (i : Nat) (v : Value) (κ : Loca → Res Hp) : Res Hp := bif lfree L i && Nat.ble (i + 2) L.length then κ (lsto2 L i v) else none
def stIf (c : ClassFile.Cond) (x y : Int32) (a b : Res Hp) : Res Hp := match c with
  | .eq => if x = y then a else b
  | .ne => if x = y then b else a
  | .lt => if x < y then a else b
  | .ge => if y ≤ x then a else b
  | .gt => if y < x then a else b
  | .le => if x ≤ y then a else b
def un1 (st : List Value) (κ : Int32 → List Value → Res Hp) : Res Hp := match st with
  | .int x :: r => κ x r
  | _ => none
def un2 (st : List Value) (κ : Int32 → Int32 → List Value → Res Hp) : Res Hp := match st with
  | .int y :: .int x :: r => κ x y r
  | _ => none
def ul1 (st : List Value) (κ : Int64 → List Value → Res Hp) : Res Hp := match st with
  | .long x :: r => κ x r
  | _ => none
def ul2 (st : List Value) (κ : Int64 → Int64 → List Value → Res Hp) : Res Hp := match st with
  | .long y :: .long x :: r => κ x y r
  | _ => none
def ua1 (st : List Value) (κ : Nat → List Value → Res Hp) : Res Hp := match st with
  | .ref x :: r => κ x r
  | _ => none
/-- one instruction that makes no cell and calls nothing; rk: what kind the method returns (0 void, 1 int, 2 boolean, 3 long) -/
def step (O : Ops Hp) (rk : Nat) (i : Instr) (aux : List Nat) (val : Value) (pc : Nat) (L : Loca) (st : List Value) (h : Hp) (k : Kt Hp) : Res Hp := match i with
  | .iconst _ => k (pc + 1) L (val :: st) h
  | .bipush _ => k (pc + 2) L (val :: st) h
  | .sipush _ => k (pc + 3) L (val :: st) h
  | .lconst _ => k (pc + 1) L (val :: st) h
  | .ldc _ => k (pc + 2) L (val :: st) h
  | .ldc_w _ => k (pc + 3) L (val :: st) h
  | .ldc2_w _ => k (pc + 3) L (val :: st) h
  | .iload_n j => ldI L j.val fun x => k (pc + 1) L (.int x :: st) h
  | .iload j => ldI L j fun x => k (pc + 2) L (.int x :: st) h
  | .lload_n j => ldL L j.val fun x => k (pc + 1) L (.long x :: st) h
  | .lload j => ldL L j fun x => k (pc + 2) L (.long x :: st) h
  | .aload_n j => ldA L j.val fun x => k (pc + 1) L (.ref x :: st) h
  | .aload j => ldA L j fun x => k (pc + 2) L (.ref x :: st) h
  | .istore_n j => un1 st fun x r => on1 L j.val (.int x) fun L' => k (pc + 1) L' r h
  | .istore j => un1 st fun x r => on1 L j (.int x) fun L' => k (pc + 2) L' r h
  | .lstore_n j => ul1 st fun x r => on2 L j.val (.long x) fun L' => k (pc + 1) L' r h
  | .lstore j => ul1 st fun x r => on2 L j (.long x) fun L' => k (pc + 2) L' r h
  | .astore_n j => ua1 st fun x r => on1 L j.val (.ref x) fun L' => k (pc + 1) L' r h
  | .astore j => ua1 st fun x r => on1 L j (.ref x) fun L' => k (pc + 2) L' r h
  | .iinc j _ => ldI L j fun x => match val with
    | .int v => on1 L j (.int (x + v)) fun L' => k (pc + 3) L' st h
    | _ => none
  | .iadd => un2 st fun x y r => k (pc + 1) L (.int (x + y) :: r) h
  | .isub => un2 st fun x y r => k (pc + 1) L (.int (x - y) :: r) h
  | .imul => un2 st fun x y r => k (pc + 1) L (.int (x * y) :: r) h
  | .iand => un2 st fun x y r => k (pc + 1) L (.int (x &&& y) :: r) h
  | .ior => un2 st fun x y r => k (pc + 1) L (.int (x ||| y) :: r) h
  | .ixor => un2 st fun x y r => k (pc + 1) L (.int (x ^^^ y) :: r) h
  | .ishl => un2 st fun x y r => k (pc + 1) L (.int (x <<< (y &&& 31)) :: r) h
  | .ishr => un2 st fun x y r => k (pc + 1) L (.int (x >>> (y &&& 31)) :: r) h
  | .iushr => un2 st fun x y r => k (pc + 1) L (.int (x.toUInt32 >>> (y.toUInt32 &&& Int32.toUInt32 31)).toInt32 :: r) h
  | .idiv => un2 st fun x y r => if y = 0 then none else k (pc + 1) L (.int (x / y) :: r) h
  | .irem => un2 st fun x y r => if y = 0 then none else k (pc + 1) L (.int (x - x / y * y) :: r) h
  | .ladd => ul2 st fun x y r => k (pc + 1) L (.long (x + y) :: r) h
  | .lsub => ul2 st fun x y r => k (pc + 1) L (.long (x - y) :: r) h
  | .lmul => ul2 st fun x y r => k (pc + 1) L (.long (x * y) :: r) h
  | .ldiv => ul2 st fun x y r => if y = 0 then none else k (pc + 1) L (.long (x / y) :: r) h
  | .lrem => ul2 st fun x y r => if y = 0 then none else k (pc + 1) L (.long (x - x / y * y) :: r) h
  | .lcmp => ul2 st fun x y r => k (pc + 1) L (.int (lg_cmp x y) :: r) h
  | .i2l => un1 st fun x r => k (pc + 1) L (.long x.toInt64 :: r) h
  | .l2i => ul1 st fun x r => k (pc + 1) L (.int x.toInt32 :: r) h
  | .i2b => un1 st fun x r => k (pc + 1) L (.int x.toInt8.toInt32 :: r) h
  | .dup => match st with
    | .int x :: r => k (pc + 1) L (.int x :: .int x :: r) h
    | .ref x :: r => k (pc + 1) L (.ref x :: .ref x :: r) h
    | _ => none
  | .dup2 => match st with
    | .int y :: .ref x :: r => k (pc + 1) L (.int y :: .ref x :: .int y :: .ref x :: r) h
    | _ => none
  | .pop => match st with
    | .int _ :: r => k (pc + 1) L r h
    | _ => none
  | .goto _ => match aux with
    | t :: _ => k t L st h
    | [] => none
  | .ifCond c _ => match aux with
    | t :: _ => un1 st fun x r => stIf c x 0 (k t L r h) (k (pc + 3) L r h)
    | [] => none
  | .if_icmp c _ => match aux with
    | t :: _ => un2 st fun x y r => stIf c x y (k t L r h) (k (pc + 3) L r h)
    | [] => none
  | .tableswitch _ _ _ _ => match aux with
    | d :: ps => un1 st fun x r => swc x ps d fun t => k t L r h
    | [] => none
  | .lookupswitch _ _ => match aux with
    | d :: ps => un1 st fun x r => swc x ps d fun t => k t L r h
    | [] => none
  | .getfield _ => match aux with
    | [ci, f, 0] => ua1 st fun a r => oGI O h a ci f fun v => k (pc + 3) L (.int v :: r) h
    | [ci, f, 1] => ua1 st fun a r => oGR O h a ci f fun v => k (pc + 3) L (.ref v :: r) h
    | [ci, f, 2] => ua1 st fun a r => oGL O h a ci f fun v => k (pc + 3) L (.long v :: r) h
    | _ => none
  | .putfield _ => match aux with
    | [ci, f, 0] => un1 st fun v r => ua1 r fun a r => oPI O h a ci f v fun h' => k (pc + 3) L r h'
    | [ci, f, 1] => ua1 st fun v r => ua1 r fun a r => oPR O h a ci f v fun h' => k (pc + 3) L r h'
    | [ci, f, 2] => ul1 st fun v r => ua1 r fun a r => oPL O h a ci f v fun h' => k (pc + 3) L r h'
    | _ => none
  | .arraylength => ua1 st fun a r => oLN O h a fun n => k (pc + 1) L (.int (Int32.ofNat n) :: r) h
  | .iaload => un1 st fun i r => ua1 r fun a r => oAI O h a i fun v => k (pc + 1) L (.int v :: r) h
  | .baload => un1 st fun i r => ua1 r fun a r => oAZ O h a i fun v => k (pc + 1) L (.int v :: r) h
  | .aaload => un1 st fun i r => ua1 r fun a r => oAR O h a i fun v => k (pc + 1) L (.ref v :: r) h
  | .iastore => un2 st fun i v r => ua1 r fun a r => oSI O h a i v fun h' => k (pc + 1) L r h'
  | .bastore => un2 st fun i v r => ua1 r fun a r => oSZ O h a i v fun h' => k (pc + 1) L r h'
  | .aastore => ua1 st fun v r => un1 r fun i r => ua1 r fun a r => oSR O h a i v fun h' => k (pc + 1) L r h'
  | .ireturn => match st with
    | [.int v] => match rk with
      | 1 => retI v h
      | 2 => retZ v h
      | _ => none
    | _ => none
  | .lreturn => match st with
    | [.long v] => match rk with
      | 3 => retL v h
      | _ => none
    | _ => none
  | .return_ => match st with
    | [] => match rk with
      | 0 => retV h
      | _ => none
    | _ => none
  | _ => none
abbrev Sem (Hp : Type) : Type := List (Nat × (List Value → Hp → Res Hp))
def semOf : Sem Hp → Nat → List Value → Hp → Res Hp
  | [], _ => fun _ _ => none
  | e :: t, mi => bif Nat.beq e.1 mi then e.2 else semOf t mi
/-- a call: aux = the method's number, how many values it takes, what kind it returns -/
def callF (S : Sem Hp) (aux : List Nat) (pc : Nat) (L : Loca) (st : List Value) (h : Hp) (k : Kt Hp) : Res Hp := match aux with
  | [mi, n, rk] => match topn n [] st with
    | none => none
    | some (as, r) => bif fewc r then (match rk with
      | 0 => bV (semOf S mi as h) fun h' => k (pc + 3) L r h'
      | 3 => bL (semOf S mi as h) fun v h' => k (pc + 3) L (.long v :: r) h'
      | _ => bI (semOf S mi as h) fun v h' => k (pc + 3) L (.int v :: r) h') else none
  | _ => none
/-- System.arraycopy over ints -/
def copyF (O : Ops Hp) (pc : Nat) (L : Loca) (st : List Value) (h : Hp) (k : Kt Hp) : Res Hp := match st with
  | .int n :: .int j :: .ref b :: .int i :: .ref a :: r => bif fewc r then oCP O h a i b j n fun h' => k (pc + 3) L r h' else none
  | _ => none
/-- the instructions of a method that makes no cell -/
def exec1 (O : Ops Hp) (S : Sem Hp) (rk : Nat) (code : List Ent) (pc : Nat) (L : Loca) (st : List Value) (h : Hp) (k : Kt Hp) : Res Hp := match fetch code pc with
  | none => none
  | some (i, _, aux, val) => match i with
    | .invokevirtual _ => callF S aux pc L st h k
    | .invokestatic _ => match aux with
      | [] => copyF O pc L st h k
      | _ => callF S aux pc L st h k
    | _ => step O rk i aux val pc L st h k
abbrev Stop (Hp : Type) : Type := List (Nat × List Nat × (List Value → List Value → Hp → Res Hp))
def pickL (L : Loca) : List Nat → Option (List Value)
  | [] => some []
  | i :: is => match lget L i with
    | none => none
    | some v => match pickL L is with
      | none => none
      | some vs => some (v :: vs)
def stopOf : Stop Hp → Nat → Option (List Nat × (List Value → List Value → Hp → Res Hp))
  | [], _ => none
  | e :: t, pc => bif Nat.beq e.1 pc then some e.2 else stopOf t pc
def runF (O : Ops Hp) (S : Sem Hp) (Z : Stop Hp) (rk : Nat) (code : List Ent) (n : Nat) : Kt Hp :=
  Nat.rec (fun _ _ _ _ => none) (fun _ ih pc L st h => match stopOf Z pc with
    | some z => match pickL L z.1 with
      | some vs => z.2 vs st h
      | none => none
    | none => exec1 O S rk code pc L st h ih) n
end STEP
/-- a loop in CPS -/
def loopC {S ρ : Type} (b : S → (S → Option ρ) → Option ρ) (n : Nat) : S → Option ρ :=
  Nat.rec (fun _ => none) (fun _ ih s => b s ih) n
end
section
/-! the static shape of the heap behind both constructors: (code, length, references); codes 0 .. 7 objects of the classes, 100 int[], 101 boolean[], 102 Sheet[], 103 Land[], 104 Letter[], 105 int[][] -/
abbrev ShE : Type := Nat × Nat × List Nat
def shT : List ShE := [(6, 12, [1, 2, 3, 32, 61, 62, 63, 64, 68, 70, 0, 0]),
  (102, 6, [71, 73, 75, 77, 79, 81]),
  (102, 4, [83, 85, 87, 89]),
  (0, 12, [4, 5, 6, 7, 8, 9, 18, 19, 0, 0, 0, 0]),
  (100, 7, []),
  (100, 7, []),
  (100, 16, []),
  (100, 16, []),
  (100, 16, []),
  (105, 8, [10, 11, 12, 13, 14, 15, 16, 17]),
  (100, 7, []),
  (100, 7, []),
  (100, 7, []),
  (100, 7, []),
  (100, 7, []),
  (100, 7, []),
  (100, 7, []),
  (100, 7, []),
  (100, 7, []),
  (104, 4, [20, 23, 26, 29]),
  (1, 5, [21, 22, 0, 0, 0]),
  (100, 7, []),
  (100, 7, []),
  (1, 5, [24, 25, 0, 0, 0]),
  (100, 7, []),
  (100, 7, []),
  (1, 5, [27, 28, 0, 0, 0]),
  (100, 7, []),
  (100, 7, []),
  (1, 5, [30, 31, 0, 0, 0]),
  (100, 7, []),
  (100, 7, []),
  (0, 12, [33, 34, 35, 36, 37, 38, 47, 48, 0, 0, 0, 0]),
  (100, 7, []),
  (100, 7, []),
  (100, 16, []),
  (100, 16, []),
  (100, 16, []),
  (105, 8, [39, 40, 41, 42, 43, 44, 45, 46]),
  (100, 7, []),
  (100, 7, []),
  (100, 7, []),
  (100, 7, []),
  (100, 7, []),
  (100, 7, []),
  (100, 7, []),
  (100, 7, []),
  (100, 7, []),
  (104, 4, [49, 52, 55, 58]),
  (1, 5, [50, 51, 0, 0, 0]),
  (100, 7, []),
  (100, 7, []),
  (1, 5, [53, 54, 0, 0, 0]),
  (100, 7, []),
  (100, 7, []),
  (1, 5, [56, 57, 0, 0, 0]),
  (100, 7, []),
  (100, 7, []),
  (1, 5, [59, 60, 0, 0, 0]),
  (100, 7, []),
  (100, 7, []),
  (103, 3, [91, 120, 149]),
  (101, 3, []),
  (3, 5, [32, 0, 0, 0, 0]),
  (5, 6, [3, 65, 66, 0, 67, 0]),
  (100, 7, []),
  (100, 7, []),
  (100, 7, []),
  (2, 5, [3, 64, 69, 0, 0]),
  (100, 5, []),
  (100, 6, []),
  (4, 2, [72, 0]),
  (100, 40, []),
  (4, 2, [74, 0]),
  (100, 40, []),
  (4, 2, [76, 0]),
  (100, 40, []),
  (4, 2, [78, 0]),
  (100, 40, []),
  (4, 2, [80, 0]),
  (100, 40, []),
  (4, 2, [82, 0]),
  (100, 40, []),
  (4, 2, [84, 0]),
  (100, 80, []),
  (4, 2, [86, 0]),
  (100, 80, []),
  (4, 2, [88, 0]),
  (100, 80, []),
  (4, 2, [90, 0]),
  (100, 80, []),
  (0, 12, [92, 93, 94, 95, 96, 97, 106, 107, 0, 0, 0, 0]),
  (100, 7, []),
  (100, 7, []),
  (100, 16, []),
  (100, 16, []),
  (100, 16, []),
  (105, 8, [98, 99, 100, 101, 102, 103, 104, 105]),
  (100, 7, []),
  (100, 7, []),
  (100, 7, []),
  (100, 7, []),
  (100, 7, []),
  (100, 7, []),
  (100, 7, []),
  (100, 7, []),
  (100, 7, []),
  (104, 4, [108, 111, 114, 117]),
  (1, 5, [109, 110, 0, 0, 0]),
  (100, 7, []),
  (100, 7, []),
  (1, 5, [112, 113, 0, 0, 0]),
  (100, 7, []),
  (100, 7, []),
  (1, 5, [115, 116, 0, 0, 0]),
  (100, 7, []),
  (100, 7, []),
  (1, 5, [118, 119, 0, 0, 0]),
  (100, 7, []),
  (100, 7, []),
  (0, 12, [121, 122, 123, 124, 125, 126, 135, 136, 0, 0, 0, 0]),
  (100, 7, []),
  (100, 7, []),
  (100, 16, []),
  (100, 16, []),
  (100, 16, []),
  (105, 8, [127, 128, 129, 130, 131, 132, 133, 134]),
  (100, 7, []),
  (100, 7, []),
  (100, 7, []),
  (100, 7, []),
  (100, 7, []),
  (100, 7, []),
  (100, 7, []),
  (100, 7, []),
  (100, 7, []),
  (104, 4, [137, 140, 143, 146]),
  (1, 5, [138, 139, 0, 0, 0]),
  (100, 7, []),
  (100, 7, []),
  (1, 5, [141, 142, 0, 0, 0]),
  (100, 7, []),
  (100, 7, []),
  (1, 5, [144, 145, 0, 0, 0]),
  (100, 7, []),
  (100, 7, []),
  (1, 5, [147, 148, 0, 0, 0]),
  (100, 7, []),
  (100, 7, []),
  (0, 12, [150, 151, 152, 153, 154, 155, 164, 165, 0, 0, 0, 0]),
  (100, 7, []),
  (100, 7, []),
  (100, 16, []),
  (100, 16, []),
  (100, 16, []),
  (105, 8, [156, 157, 158, 159, 160, 161, 162, 163]),
  (100, 7, []),
  (100, 7, []),
  (100, 7, []),
  (100, 7, []),
  (100, 7, []),
  (100, 7, []),
  (100, 7, []),
  (100, 7, []),
  (100, 7, []),
  (104, 4, [166, 169, 172, 175]),
  (1, 5, [167, 168, 0, 0, 0]),
  (100, 7, []),
  (100, 7, []),
  (1, 5, [170, 171, 0, 0, 0]),
  (100, 7, []),
  (100, 7, []),
  (1, 5, [173, 174, 0, 0, 0]),
  (100, 7, []),
  (100, 7, []),
  (1, 5, [176, 177, 0, 0, 0]),
  (100, 7, []),
  (100, 7, []),
  (7, 33, [0, 179, 0, 180, 181, 182, 183, 184, 0, 185, 186, 0, 187, 0, 0, 188, 0, 0, 0, 189, 190, 191, 192, 193, 194, 0, 0, 0, 0, 195, 0, 196, 0]),
  (100, 6, []),
  (100, 6, []),
  (100, 240, []),
  (100, 40, []),
  (100, 4, []),
  (100, 320, []),
  (100, 7, []),
  (100, 7, []),
  (100, 48, []),
  (100, 68, []),
  (100, 7, []),
  (100, 7, []),
  (100, 48, []),
  (100, 420, []),
  (100, 7, []),
  (100, 7, []),
  (101, 128, []),
  (100, 49, [])]
def fkT : List (List Nat) := [[1, 1, 1, 1, 1, 1, 1, 1, 0, 0, 0, 0], [1, 1, 0, 0, 0], [1, 1, 1, 0, 0], [1, 0, 0, 0, 0], [1, 0], [1, 1, 1, 0, 1, 0], [1, 1, 1, 1, 1, 1, 1, 1, 1, 1, 0, 0], [0, 1, 0, 1, 1, 1, 1, 1, 0, 1, 1, 0, 1, 0, 0, 1, 0, 0, 0, 1, 1, 1, 1, 1, 1, 0, 0, 0, 0, 1, 0, 1, 2]]
def shAt : List ShE → Nat → ShE
  | [], _ => (999, 0, [])
  | e :: _, 0 => e
  | _ :: t, i + 1 => shAt t i
def nthN : List Nat → Nat → Nat
  | [], _ => 0
  | e :: _, 0 => e
  | _ :: t, i + 1 => nthN t i
def nthL : List (List Nat) → Nat → List Nat
  | [], _ => []
  | e :: _, 0 => e
  | _ :: t, i + 1 => nthL t i
def shC (a : Nat) : Nat := (shAt shT a).1
def shN (a : Nat) : Nat := (shAt shT a).2.1
def shR (a k : Nat) : Nat := nthN (shAt shT a).2.2 k
def nth9 : List Nat → Nat → Nat
  | [], _ => 9
  | e :: _, 0 => e
  | _ :: t, i + 1 => nth9 t i
def fk (ci k : Nat) : Nat := nth9 (nthL fkT ci) k
/-- the heap: ints by cell and place, and the one long (field 32 of the reference's object) -/
abbrev Hp : Type := (Nat → Nat → Int32) × Int64
def hg (h : Hp) (a k : Nat) : Int32 := h.1 a k
def hs (h : Hp) (a k : Nat) (v : Int32) : Hp := (fun b j => if b = a ∧ j = k then v else h.1 b j, h.2)
def hl (h : Hp) : Int64 := h.2
def hsl (h : Hp) (v : Int64) : Hp := (h.1, v)
def hcp (h : Hp) (a : Nat) (i : Int32) (b : Nat) (j n : Int32) : Hp := (fun c x => if c = b then va_cpy (h.1 a) (h.1 b) i.toNatClampNeg j.toNatClampNeg n.toNatClampNeg x else h.1 c x, h.2)
def okF (a ci k kd : Nat) : Bool := Nat.beq (shC a) ci && Nat.beq (fk ci k) kd
def inB (i : Int32) (n : Nat) : Bool := !(decide (i < 0)) && Nat.blt i.toNatClampNeg n
def okA (a code : Nat) (i : Int32) : Bool := Nat.beq (shC a) code && inB i (shN a)
def okR (a : Nat) (i : Int32) : Bool := Nat.ble 102 (shC a) && Nat.ble (shC a) 105 && inB i (shN a)
def okN (a : Nat) : Bool := Nat.ble 100 (shC a) && Nat.ble (shC a) 105
def okC (a : Nat) (i : Int32) (b : Nat) (j n : Int32) : Bool := Nat.beq (shC a) 100 && Nat.beq (shC b) 100 && !(decide (i < 0)) && !(decide (j < 0)) && !(decide (n < 0)) && Nat.ble (i.toNatClampNeg + n.toNatClampNeg) (shN a) && Nat.ble (j.toNatClampNeg + n.toNatClampNeg) (shN b)
def OI : Ops Hp :=
  (fun h a ci k κ => bif okF a ci k 0 then κ (hg h a k) else none,
   fun _ a ci k κ => bif okF a ci k 1 then κ (shR a k) else none,
   fun h a ci k κ => bif okF a ci k 2 then κ (hl h) else none,
   fun h a ci k v κ => bif okF a ci k 0 then κ (hs h a k v) else none,
   fun h a ci k v κ => bif okF a ci k 2 then κ (hsl h v) else none,
   fun _ _ _ _ _ _ => none,
   fun _ a κ => bif okN a then κ (shN a) else none,
   fun h a i κ => bif okA a 100 i then κ (hg h a i.toNatClampNeg) else none,
   fun h a i κ => bif okA a 101 i then κ (hg h a i.toNatClampNeg) else none,
   fun _ a i κ => bif okR a i then κ (shR a i.toNatClampNeg) else none,
   fun h a i v κ => bif okA a 100 i then κ (hs h a i.toNatClampNeg v) else none,
   fun h a i v κ => bif okA a 101 i then κ (hs h a i.toNatClampNeg (vp_nar .boolean v)) else none,
   fun _ _ _ _ _ => none,
   fun h a i b j n κ => bif okC a i b j n then κ (hcp h a i b j n) else none)
def FU : Nat := 4096
theorem x_ite {α : Type} {c : Prop} [Decidable c] {a b a' b' : α} (h1 : a = a') (h2 : b = b') : (if c then a else b) = (if c then a' else b') := by rw [h1, h2]
theorem x_if0 {ρ : Type} {c : Prop} [Decidable c] {b b' : Option ρ} (h2 : b = b') : (if c then none else b) = (if c then none else b') := by rw [h2]
theorem x_bif {ρ : Type} {c : Bool} {a a' : Option ρ} (h1 : a = a') : (bif c then a else none) = (bif c then a' else none) := by rw [h1]
theorem x_bI {ρ : Type} {r : Res Hp} {k k' : Int32 → Hp → Option ρ} (h1 : ∀ v h, k v h = k' v h) : bI r k = bI r k' := by rw [show k = k' from funext fun v => funext fun h => h1 v h]
theorem x_bL {ρ : Type} {r : Res Hp} {k k' : Int64 → Hp → Option ρ} (h1 : ∀ v h, k v h = k' v h) : bL r k = bL r k' := by rw [show k = k' from funext fun v => funext fun h => h1 v h]
theorem x_bV {ρ : Type} {r : Res Hp} {k k' : Hp → Option ρ} (h1 : ∀ h, k h = k' h) : bV r k = bV r k' := by rw [show k = k' from funext fun h => h1 h]
end
section
def k_Bp_bit : List Ent := [(0, .iconst 1, 1, [], .int (1)), (1, .iload_n 0, 1, [], .null), (2, .ishl, 1, [], .null), (3, .ireturn, 1, [], .null)]
def F_Bp_bit (x0 : Int32) (h : Hp) : Res Hp :=
  retI ((1 : Int32) <<< (x0 &&& 31)) h
def sF_Bp_bit : List Value → Hp → Res Hp := fun as h => match as with | [.int x0] => F_Bp_bit x0 h | _ => none
def S_Bp_bit : Sem Hp := []
set_option maxRecDepth 100000 in
theorem e_Bp_bit_0 (x0 : Int32) (h : Hp) : F_Bp_bit x0 h = exec1 OI S_Bp_bit 1 k_Bp_bit 0 [some (.int x0)] [] h (runF OI S_Bp_bit [] 1 k_Bp_bit 400) :=
  rfl
def k_Le_holder : List Ent := [(0, .aload_n 0, 1, [], .null), (1, .getfield 9, 3, [1, 0, 1], .null), (4, .aload_n 0, 1, [], .null), (5, .getfield 18, 3, [1, 2, 0], .null), (8, .iconst 1, 1, [], .int (1)), (9, .isub, 1, [], .null), (10, .iaload, 1, [], .null), (11, .ireturn, 1, [], .null)]
def F_Le_holder (o0 : Nat) (h : Hp) : Res Hp :=
  bif okF o0 1 0 1 then
  bif okF o0 1 2 0 then
  bif okA (shR o0 0) 100 ((hg h o0 2) - (1 : Int32)) then
  retI (hg h (shR o0 0) ((hg h o0 2) - (1 : Int32)).toNatClampNeg) h
  else none
  else none
  else none
def sF_Le_holder : List Value → Hp → Res Hp := fun as h => match as with | [.ref o0] => F_Le_holder o0 h | _ => none
def S_Le_holder : Sem Hp := []
set_option maxRecDepth 100000 in
theorem e_Le_holder_0 (o0 : Nat) (h : Hp) : F_Le_holder o0 h = exec1 OI S_Le_holder 1 k_Le_holder 0 [some (.ref o0)] [] h (runF OI S_Le_holder [] 1 k_Le_holder 400) :=
  (x_bif (x_bif (x_bif rfl)))
def k_Le_isThere : List Ent := [(0, .aload_n 0, 1, [], .null), (1, .invokevirtual 34, 3, [198, 1, 1], .null), (4, .aload_n 0, 1, [], .null), (5, .getfield 22, 3, [1, 3, 0], .null), (8, .if_icmp .ne (7), 3, [15], .null), (11, .iconst 1, 1, [], .int (1)), (12, .goto (4), 3, [16], .null), (15, .iconst 0, 1, [], .int (0)), (16, .ireturn, 1, [], .null)]
def F_Le_isThere (o0 : Nat) (h : Hp) : Res Hp :=
  bI (F_Le_holder o0 h) fun v2 h1 =>
  bif okF o0 1 3 0 then
  if v2 = (hg h1 o0 3) then
  (retZ (1 : Int32) h1)
  else
  (retZ (0 : Int32) h1)
  else none
def sF_Le_isThere : List Value → Hp → Res Hp := fun as h => match as with | [.ref o0] => F_Le_isThere o0 h | _ => none
def S_Le_isThere : Sem Hp := [(198, sF_Le_holder)]
set_option maxRecDepth 100000 in
theorem e_Le_isThere_0 (o0 : Nat) (h : Hp) : F_Le_isThere o0 h = exec1 OI S_Le_isThere 2 k_Le_isThere 0 [some (.ref o0)] [] h (runF OI S_Le_isThere [] 2 k_Le_isThere 400) :=
  (x_bI fun v2 h1 => (x_bif (x_ite rfl rfl)))
def k_Bp_withNeighbours : List Ent := [(0, .iload_n 0, 1, [], .null), (1, .iload_n 0, 1, [], .null), (2, .iconst 1, 1, [], .int (1)), (3, .ishl, 1, [], .null), (4, .ior, 1, [], .null), (5, .iload_n 0, 1, [], .null), (6, .iconst 1, 1, [], .int (1)), (7, .ishr, 1, [], .null), (8, .ior, 1, [], .null), (9, .bipush (31), 2, [], .int (31)), (11, .iand, 1, [], .null), (12, .ireturn, 1, [], .null)]
def F_Bp_withNeighbours (x0 : Int32) (h : Hp) : Res Hp :=
  retI (((x0 ||| (x0 <<< ((1 : Int32) &&& 31))) ||| (x0 >>> ((1 : Int32) &&& 31))) &&& (31 : Int32)) h
def sF_Bp_withNeighbours : List Value → Hp → Res Hp := fun as h => match as with | [.int x0] => F_Bp_withNeighbours x0 h | _ => none
def S_Bp_withNeighbours : Sem Hp := []
set_option maxRecDepth 100000 in
theorem e_Bp_withNeighbours_0 (x0 : Int32) (h : Hp) : F_Bp_withNeighbours x0 h = exec1 OI S_Bp_withNeighbours 1 k_Bp_withNeighbours 0 [some (.int x0)] [] h (runF OI S_Bp_withNeighbours [] 1 k_Bp_withNeighbours 400) :=
  rfl
def k_La_bars : List Ent := [(0, .aload_n 0, 1, [], .null), (1, .getfield 9, 3, [0, 0, 1], .null), (4, .iload_n 1, 1, [], .null), (5, .iaload, 1, [], .null), (6, .tableswitch (48) 1 5 #[34, 36, 48, 34, 34], 34, [54, 1, 40, 2, 42, 3, 54, 4, 40, 5, 40], .null), (40, .iconst 0, 1, [], .int (0)), (41, .ireturn, 1, [], .null), (42, .aload_n 0, 1, [], .null), (43, .getfield 15, 3, [0, 1, 1], .null), (46, .iload_n 1, 1, [], .null), (47, .iaload, 1, [], .null), (48, .iload_n 2, 1, [], .null), (49, .invokestatic 89, 3, [69, 1, 1], .null), (52, .iand, 1, [], .null), (53, .ireturn, 1, [], .null), (54, .aload_n 0, 1, [], .null), (55, .getfield 15, 3, [0, 1, 1], .null), (58, .iload_n 1, 1, [], .null), (59, .iaload, 1, [], .null), (60, .iload_n 2, 1, [], .null), (61, .iand, 1, [], .null), (62, .ireturn, 1, [], .null)]
def F_La_bars (o0 : Nat) (x1 : Int32) (x2 : Int32) (h : Hp) : Res Hp :=
  bif okF o0 0 0 1 then
  bif okA (shR o0 0) 100 x1 then
  if (hg h (shR o0 0) x1.toNatClampNeg) = (1 : Int32) then
  (retI (0 : Int32) h)
  else if (hg h (shR o0 0) x1.toNatClampNeg) = (2 : Int32) then
  (bif okF o0 0 1 1 then
  bif okA (shR o0 1) 100 x1 then
  bI (F_Bp_withNeighbours x2 h) fun v2 h1 =>
  retI ((hg h (shR o0 1) x1.toNatClampNeg) &&& v2) h1
  else none
  else none)
  else if (hg h (shR o0 0) x1.toNatClampNeg) = (3 : Int32) then
  (bif okF o0 0 1 1 then
  bif okA (shR o0 1) 100 x1 then
  retI ((hg h (shR o0 1) x1.toNatClampNeg) &&& x2) h
  else none
  else none)
  else if (hg h (shR o0 0) x1.toNatClampNeg) = (4 : Int32) then
  (retI (0 : Int32) h)
  else if (hg h (shR o0 0) x1.toNatClampNeg) = (5 : Int32) then
  (retI (0 : Int32) h)
  else 
  (bif okF o0 0 1 1 then
  bif okA (shR o0 1) 100 x1 then
  retI ((hg h (shR o0 1) x1.toNatClampNeg) &&& x2) h
  else none
  else none)
  else none
  else none
def sF_La_bars : List Value → Hp → Res Hp := fun as h => match as with | [.ref o0, .int x1, .int x2] => F_La_bars o0 x1 x2 h | _ => none
def S_La_bars : Sem Hp := [(69, sF_Bp_withNeighbours)]
set_option maxRecDepth 100000 in
theorem e_La_bars_0 (o0 : Nat) (x1 : Int32) (x2 : Int32) (h : Hp) : F_La_bars o0 x1 x2 h = exec1 OI S_La_bars 1 k_La_bars 0 [some (.ref o0), some (.int x1), some (.int x2)] [] h (runF OI S_La_bars [] 1 k_La_bars 400) :=
  (x_bif (x_bif (x_ite rfl (x_ite (x_bif (x_bif (x_bI fun v2 h1 => rfl))) (x_ite (x_bif (x_bif rfl)) (x_ite rfl (x_ite rfl (x_bif (x_bif rfl)))))))))
def k_La_carries : List Ent := [(0, .aload_n 0, 1, [], .null), (1, .iload_n 1, 1, [], .null), (2, .iload_n 2, 1, [], .null), (3, .invokevirtual 92, 3, [182, 3, 1], .null), (6, .ifCond .ne (7), 3, [13], .null), (9, .iconst 1, 1, [], .int (1)), (10, .goto (4), 3, [14], .null), (13, .iconst 0, 1, [], .int (0)), (14, .ireturn, 1, [], .null)]
def F_La_carries (o0 : Nat) (x1 : Int32) (x2 : Int32) (h : Hp) : Res Hp :=
  bI (F_La_bars o0 x1 x2 h) fun v2 h1 =>
  if v2 = (0 : Int32) then
  (retZ (1 : Int32) h1)
  else
  (retZ (0 : Int32) h1)
def sF_La_carries : List Value → Hp → Res Hp := fun as h => match as with | [.ref o0, .int x1, .int x2] => F_La_carries o0 x1 x2 h | _ => none
def S_La_carries : Sem Hp := [(182, sF_La_bars)]
set_option maxRecDepth 100000 in
theorem e_La_carries_0 (o0 : Nat) (x1 : Int32) (x2 : Int32) (h : Hp) : F_La_carries o0 x1 x2 h = exec1 OI S_La_carries 2 k_La_carries 0 [some (.ref o0), some (.int x1), some (.int x2)] [] h (runF OI S_La_carries [] 2 k_La_carries 400) :=
  (x_bI fun v2 h1 => (x_ite rfl rfl))
def k_Le_isWithSender : List Ent := [(0, .aload_n 0, 1, [], .null), (1, .getfield 18, 3, [1, 2, 0], .null), (4, .iconst 1, 1, [], .int (1)), (5, .if_icmp .ne (7), 3, [12], .null), (8, .iconst 1, 1, [], .int (1)), (9, .goto (4), 3, [13], .null), (12, .iconst 0, 1, [], .int (0)), (13, .ireturn, 1, [], .null)]
def F_Le_isWithSender (o0 : Nat) (h : Hp) : Res Hp :=
  bif okF o0 1 2 0 then
  if (hg h o0 2) = (1 : Int32) then
  (retZ (1 : Int32) h)
  else
  (retZ (0 : Int32) h)
  else none
def sF_Le_isWithSender : List Value → Hp → Res Hp := fun as h => match as with | [.ref o0] => F_Le_isWithSender o0 h | _ => none
def S_Le_isWithSender : Sem Hp := []
set_option maxRecDepth 100000 in
theorem e_Le_isWithSender_0 (o0 : Nat) (h : Hp) : F_Le_isWithSender o0 h = exec1 OI S_Le_isWithSender 2 k_Le_isWithSender 0 [some (.ref o0)] [] h (runF OI S_Le_isWithSender [] 2 k_Le_isWithSender 400) :=
  (x_bif (x_ite rfl rfl))
def k_Le_cameWhen : List Ent := [(0, .aload_n 0, 1, [], .null), (1, .getfield 15, 3, [1, 1, 1], .null), (4, .aload_n 0, 1, [], .null), (5, .getfield 18, 3, [1, 2, 0], .null), (8, .iconst 1, 1, [], .int (1)), (9, .isub, 1, [], .null), (10, .iaload, 1, [], .null), (11, .ireturn, 1, [], .null)]
def F_Le_cameWhen (o0 : Nat) (h : Hp) : Res Hp :=
  bif okF o0 1 1 1 then
  bif okF o0 1 2 0 then
  bif okA (shR o0 1) 100 ((hg h o0 2) - (1 : Int32)) then
  retI (hg h (shR o0 1) ((hg h o0 2) - (1 : Int32)).toNatClampNeg) h
  else none
  else none
  else none
def sF_Le_cameWhen : List Value → Hp → Res Hp := fun as h => match as with | [.ref o0] => F_Le_cameWhen o0 h | _ => none
def S_Le_cameWhen : Sem Hp := []
set_option maxRecDepth 100000 in
theorem e_Le_cameWhen_0 (o0 : Nat) (h : Hp) : F_Le_cameWhen o0 h = exec1 OI S_Le_cameWhen 1 k_Le_cameWhen 0 [some (.ref o0)] [] h (runF OI S_Le_cameWhen [] 1 k_Le_cameWhen 400) :=
  (x_bif (x_bif (x_bif rfl)))
def k_Le_wasGivenIn : List Ent := [(0, .aload_n 0, 1, [], .null), (1, .invokevirtual 38, 3, [201, 1, 2], .null), (4, .ifCond .ne (15), 3, [19], .null), (7, .aload_n 0, 1, [], .null), (8, .invokevirtual 42, 3, [199, 1, 1], .null), (11, .iload_n 1, 1, [], .null), (12, .if_icmp .ne (7), 3, [19], .null), (15, .iconst 1, 1, [], .int (1)), (16, .goto (4), 3, [20], .null), (19, .iconst 0, 1, [], .int (0)), (20, .ireturn, 1, [], .null)]
def F_Le_wasGivenIn (o0 : Nat) (x1 : Int32) (h : Hp) : Res Hp :=
  bI (F_Le_isWithSender o0 h) fun v2 h1 =>
  if v2 = (0 : Int32) then
  (bI (F_Le_cameWhen o0 h1) fun v4 h3 =>
  if v4 = x1 then
  (retZ (1 : Int32) h3)
  else
  (retZ (0 : Int32) h3))
  else
  (retZ (0 : Int32) h1)
def sF_Le_wasGivenIn : List Value → Hp → Res Hp := fun as h => match as with | [.ref o0, .int x1] => F_Le_wasGivenIn o0 x1 h | _ => none
def S_Le_wasGivenIn : Sem Hp := [(201, sF_Le_isWithSender), (199, sF_Le_cameWhen)]
set_option maxRecDepth 100000 in
theorem e_Le_wasGivenIn_0 (o0 : Nat) (x1 : Int32) (h : Hp) : F_Le_wasGivenIn o0 x1 h = exec1 OI S_Le_wasGivenIn 2 k_Le_wasGivenIn 0 [some (.ref o0), some (.int x1)] [] h (runF OI S_Le_wasGivenIn [] 2 k_Le_wasGivenIn 400) :=
  (x_bI fun v2 h1 => (x_ite (x_bI fun v4 h3 => (x_ite rfl rfl)) rfl))
def k_Le_seen : List Ent := [(0, .iconst 0, 1, [], .int (0)), (1, .istore_n 1, 1, [], .null), (2, .iconst 0, 1, [], .int (0)), (3, .istore_n 2, 1, [], .null), (4, .iload_n 2, 1, [], .null), (5, .aload_n 0, 1, [], .null), (6, .getfield 18, 3, [1, 2, 0], .null), (9, .if_icmp .ge (21), 3, [30], .null), (12, .iload_n 1, 1, [], .null), (13, .aload_n 0, 1, [], .null), (14, .getfield 9, 3, [1, 0, 1], .null), (17, .iload_n 2, 1, [], .null), (18, .iaload, 1, [], .null), (19, .invokestatic 45, 3, [64, 1, 1], .null), (22, .ior, 1, [], .null), (23, .istore_n 1, 1, [], .null), (24, .iinc 2 (1), 3, [], .int (1)), (27, .goto (-23), 3, [4], .null), (30, .iload_n 1, 1, [], .null), (31, .ireturn, 1, [], .null)]
def Le_seen_4  (o0 : Nat)  : (Int32 × Int32 × Hp) → ((Int32 × Int32 × Hp) → Res Hp) → Res Hp := fun s κ4 => match s with
  | (x1, x2, h) =>
  bif okF o0 1 2 0 then
  if (hg h o0 2) ≤ x2 then
  (retI x1 h)
  else
  (bif okF o0 1 0 1 then
  bif okA (shR o0 0) 100 x2 then
  bI (F_Bp_bit (hg h (shR o0 0) x2.toNatClampNeg) h) fun v2 h1 =>
  κ4 ((x1 ||| v2), (x2 + (1 : Int32)), h1)
  else none
  else none)
  else none
def F_Le_seen (o0 : Nat) (h : Hp) : Res Hp :=
  loopC (Le_seen_4  o0 ) FU ((0 : Int32), (0 : Int32), h)
def sF_Le_seen : List Value → Hp → Res Hp := fun as h => match as with | [.ref o0] => F_Le_seen o0 h | _ => none
def S_Le_seen : Sem Hp := [(64, sF_Bp_bit)]
set_option maxRecDepth 100000 in
theorem e_Le_seen_0 (o0 : Nat) (h : Hp) : F_Le_seen o0 h = exec1 OI S_Le_seen 1 k_Le_seen 0 [some (.ref o0), none, none] [] h (runF OI S_Le_seen [(4, [0, 1, 2], fun vs st h => match vs, st with | [.ref o0, .int x1, .int x2], [] => loopC (Le_seen_4  o0 ) FU (x1, x2, h) | _, _ => none)] 1 k_Le_seen 400) :=
  rfl
set_option maxRecDepth 100000 in
theorem e_Le_seen_4 (κ4 : (Int32 × Int32 × Hp) → Res Hp) (o0 : Nat) (x1 : Int32) (x2 : Int32)  (h : Hp) : Le_seen_4  o0  (x1, x2, h) κ4 = exec1 OI S_Le_seen 1 k_Le_seen 4 [some (.ref o0), some (.int x1), some (.int x2)] [] h (runF OI S_Le_seen [(4, [0, 1, 2], fun vs st h => match vs, st with | [.ref o0, .int x1, .int x2], [] => κ4 (x1, x2, h) | _, _ => none)] 1 k_Le_seen 400) :=
  (x_bif (x_ite rfl (x_bif (x_bif (x_bI fun v2 h1 => rfl)))))
def k_Bp_has : List Ent := [(0, .iload_n 0, 1, [], .null), (1, .iload_n 1, 1, [], .null), (2, .ishr, 1, [], .null), (3, .iconst 1, 1, [], .int (1)), (4, .iand, 1, [], .null), (5, .iconst 1, 1, [], .int (1)), (6, .if_icmp .ne (7), 3, [13], .null), (9, .iconst 1, 1, [], .int (1)), (10, .goto (4), 3, [14], .null), (13, .iconst 0, 1, [], .int (0)), (14, .ireturn, 1, [], .null)]
def F_Bp_has (x0 : Int32) (x1 : Int32) (h : Hp) : Res Hp :=
  if ((x0 >>> (x1 &&& 31)) &&& (1 : Int32)) = (1 : Int32) then
  (retZ (1 : Int32) h)
  else
  (retZ (0 : Int32) h)
def sF_Bp_has : List Value → Hp → Res Hp := fun as h => match as with | [.int x0, .int x1] => F_Bp_has x0 x1 h | _ => none
def S_Bp_has : Sem Hp := []
set_option maxRecDepth 100000 in
theorem e_Bp_has_0 (x0 : Int32) (x1 : Int32) (h : Hp) : F_Bp_has x0 x1 h = exec1 OI S_Bp_has 2 k_Bp_has 0 [some (.int x0), some (.int x1)] [] h (runF OI S_Bp_has [] 2 k_Bp_has 400) :=
  (x_ite rfl rfl)
def k_La_takesBetween : List Ent := [(0, .aload_n 0, 1, [], .null), (1, .iload_n 1, 1, [], .null), (2, .aload_n 2, 1, [], .null), (3, .getfield 118, 3, [1, 4, 0], .null), (6, .invokevirtual 121, 3, [183, 3, 2], .null), (9, .ifCond .eq (24), 3, [33], .null), (12, .aload_n 0, 1, [], .null), (13, .getfield 9, 3, [0, 0, 1], .null), (16, .iload_n 1, 1, [], .null), (17, .iaload, 1, [], .null), (18, .iconst 4, 1, [], .int (4)), (19, .if_icmp .ne (10), 3, [29], .null), (22, .aload_n 2, 1, [], .null), (23, .invokevirtual 124, 3, [201, 1, 2], .null), (26, .ifCond .eq (7), 3, [33], .null), (29, .iconst 1, 1, [], .int (1)), (30, .goto (4), 3, [34], .null), (33, .iconst 0, 1, [], .int (0)), (34, .ireturn, 1, [], .null)]
def F_La_takesBetween (o0 : Nat) (x1 : Int32) (o2 : Nat) (h : Hp) : Res Hp :=
  bif okF o2 1 4 0 then
  bI (F_La_carries o0 x1 (hg h o2 4) h) fun v2 h1 =>
  if v2 = (0 : Int32) then
  (retZ (0 : Int32) h1)
  else
  (bif okF o0 0 0 1 then
  bif okA (shR o0 0) 100 x1 then
  if (hg h1 (shR o0 0) x1.toNatClampNeg) = (4 : Int32) then
  (bI (F_Le_isWithSender o2 h1) fun v4 h3 =>
  if v4 = (0 : Int32) then
  (retZ (0 : Int32) h3)
  else
  (retZ (1 : Int32) h3))
  else
  (retZ (1 : Int32) h1)
  else none
  else none)
  else none
def sF_La_takesBetween : List Value → Hp → Res Hp := fun as h => match as with | [.ref o0, .int x1, .ref o2] => F_La_takesBetween o0 x1 o2 h | _ => none
def S_La_takesBetween : Sem Hp := [(183, sF_La_carries), (201, sF_Le_isWithSender)]
set_option maxRecDepth 100000 in
theorem e_La_takesBetween_0 (o0 : Nat) (x1 : Int32) (o2 : Nat) (h : Hp) : F_La_takesBetween o0 x1 o2 h = exec1 OI S_La_takesBetween 2 k_La_takesBetween 0 [some (.ref o0), some (.int x1), some (.ref o2)] [] h (runF OI S_La_takesBetween [] 2 k_La_takesBetween 400) :=
  (x_bif (x_bI fun v2 h1 => (x_ite rfl (x_bif (x_bif (x_ite (x_bI fun v4 h3 => (x_ite rfl rfl)) rfl))))))
def k_La_takers : List Ent := [(0, .aload_n 1, 1, [], .null), (1, .invokevirtual 96, 3, [200, 1, 2], .null), (4, .ifCond .ne (14), 3, [18], .null), (7, .aload_n 1, 1, [], .null), (8, .aload_n 0, 1, [], .null), (9, .getfield 51, 3, [0, 11, 0], .null), (12, .invokevirtual 100, 3, [202, 2, 2], .null), (15, .ifCond .eq (5), 3, [20], .null), (18, .iconst 0, 1, [], .int (0)), (19, .ireturn, 1, [], .null), (20, .aload_n 0, 1, [], .null), (21, .getfield 29, 3, [0, 5, 1], .null), (24, .aload_n 0, 1, [], .null), (25, .getfield 51, 3, [0, 11, 0], .null), (28, .bipush (8), 2, [], .int (8)), (30, .irem, 1, [], .null), (31, .aaload, 1, [], .null), (32, .aload_n 1, 1, [], .null), (33, .invokevirtual 104, 3, [198, 1, 1], .null), (36, .iaload, 1, [], .null), (37, .aload_n 1, 1, [], .null), (38, .invokevirtual 108, 3, [203, 1, 1], .null), (41, .iconst (-1), 1, [], .int (-1)), (42, .ixor, 1, [], .null), (43, .iand, 1, [], .null), (44, .istore_n 2, 1, [], .null), (45, .iconst 0, 1, [], .int (0)), (46, .istore_n 3, 1, [], .null), (47, .iconst 0, 1, [], .int (0)), (48, .istore 4, 2, [], .null), (50, .iload 4, 2, [], .null), (52, .aload_n 0, 1, [], .null), (53, .getfield 41, 3, [0, 8, 0], .null), (56, .if_icmp .ge (45), 3, [101], .null), (59, .iload_n 2, 1, [], .null), (60, .iload 4, 2, [], .null), (62, .invokestatic 86, 3, [65, 2, 2], .null), (65, .ifCond .eq (30), 3, [95], .null), (68, .iload 4, 2, [], .null), (70, .aload_n 1, 1, [], .null), (71, .getfield 111, 3, [1, 3, 0], .null), (74, .if_icmp .eq (13), 3, [87], .null), (77, .aload_n 0, 1, [], .null), (78, .iload 4, 2, [], .null), (80, .aload_n 1, 1, [], .null), (81, .invokevirtual 114, 3, [185, 3, 2], .null), (84, .ifCond .eq (11), 3, [95], .null), (87, .iload_n 3, 1, [], .null), (88, .iload 4, 2, [], .null), (90, .invokestatic 72, 3, [64, 1, 1], .null), (93, .ior, 1, [], .null), (94, .istore_n 3, 1, [], .null), (95, .iinc 4 (1), 3, [], .int (1)), (98, .goto (-48), 3, [50], .null), (101, .iload_n 3, 1, [], .null), (102, .ireturn, 1, [], .null)]
def La_takers_50  (o0 : Nat) (o1 : Nat) (x2 : Int32)  : (Int32 × Int32 × Hp) → ((Int32 × Int32 × Hp) → Res Hp) → Res Hp := fun s κ50 => match s with
  | (x3, x4, h) =>
  bif okF o0 0 8 0 then
  if (hg h o0 8) ≤ x4 then
  (retI x3 h)
  else
  (bI (F_Bp_has x2 x4 h) fun v2 h1 =>
  if v2 = (0 : Int32) then
  (κ50 (x3, (x4 + (1 : Int32)), h1))
  else
  (bif okF o1 1 3 0 then
  if x4 = (hg h1 o1 3) then
  (bI (F_Bp_bit x4 h1) fun v4 h3 =>
  κ50 ((x3 ||| v4), (x4 + (1 : Int32)), h3))
  else
  (bI (F_La_takesBetween o0 x4 o1 h1) fun v6 h5 =>
  if v6 = (0 : Int32) then
  (κ50 (x3, (x4 + (1 : Int32)), h5))
  else
  (bI (F_Bp_bit x4 h5) fun v8 h7 =>
  κ50 ((x3 ||| v8), (x4 + (1 : Int32)), h7)))
  else none))
  else none
def F_La_takers (o0 : Nat) (o1 : Nat) (h : Hp) : Res Hp :=
  bI (F_Le_isThere o1 h) fun v2 h1 =>
  if v2 = (0 : Int32) then
  (bif okF o0 0 11 0 then
  bI (F_Le_wasGivenIn o1 (hg h1 o0 11) h1) fun v4 h3 =>
  if v4 = (0 : Int32) then
  (bif okF o0 0 5 1 then
  bif okF o0 0 11 0 then
  bif okR (shR o0 5) ((hg h3 o0 11) - (hg h3 o0 11) / (8 : Int32) * (8 : Int32)) then
  bI (F_Le_holder o1 h3) fun v6 h5 =>
  bif okA (shR (shR o0 5) ((hg h3 o0 11) - (hg h3 o0 11) / (8 : Int32) * (8 : Int32)).toNatClampNeg) 100 v6 then
  bI (F_Le_seen o1 h5) fun v8 h7 =>
  loopC (La_takers_50  o0 o1 ((hg h5 (shR (shR o0 5) ((hg h3 o0 11) - (hg h3 o0 11) / (8 : Int32) * (8 : Int32)).toNatClampNeg) v6.toNatClampNeg) &&& (v8 ^^^ (-1 : Int32))) ) FU ((0 : Int32), (0 : Int32), h7)
  else none
  else none
  else none
  else none)
  else
  (retI (0 : Int32) h3)
  else none)
  else
  (retI (0 : Int32) h1)
def sF_La_takers : List Value → Hp → Res Hp := fun as h => match as with | [.ref o0, .ref o1] => F_La_takers o0 o1 h | _ => none
def S_La_takers : Sem Hp := [(200, sF_Le_isThere), (202, sF_Le_wasGivenIn), (198, sF_Le_holder), (203, sF_Le_seen), (65, sF_Bp_has), (64, sF_Bp_bit), (185, sF_La_takesBetween)]
set_option maxRecDepth 100000 in
theorem e_La_takers_0 (o0 : Nat) (o1 : Nat) (h : Hp) : F_La_takers o0 o1 h = exec1 OI S_La_takers 1 k_La_takers 0 [some (.ref o0), some (.ref o1), none, none, none] [] h (runF OI S_La_takers [(50, [0, 1, 2, 3, 4], fun vs st h => match vs, st with | [.ref o0, .ref o1, .int x2, .int x3, .int x4], [] => loopC (La_takers_50  o0 o1 x2 ) FU (x3, x4, h) | _, _ => none)] 1 k_La_takers 400) :=
  (x_bI fun v2 h1 => (x_ite (x_bif (x_bI fun v4 h3 => (x_ite (x_bif (x_bif (x_bif (x_bI fun v6 h5 => (x_bif (x_bI fun v8 h7 => rfl)))))) rfl))) rfl))
set_option maxRecDepth 100000 in
theorem e_La_takers_50 (κ50 : (Int32 × Int32 × Hp) → Res Hp) (o0 : Nat) (o1 : Nat) (x2 : Int32) (x3 : Int32) (x4 : Int32)  (h : Hp) : La_takers_50  o0 o1 x2  (x3, x4, h) κ50 = exec1 OI S_La_takers 1 k_La_takers 50 [some (.ref o0), some (.ref o1), some (.int x2), some (.int x3), some (.int x4)] [] h (runF OI S_La_takers [(50, [0, 1, 2, 3, 4], fun vs st h => match vs, st with | [.ref o0, .ref o1, .int x2, .int x3, .int x4], [] => κ50 (x3, x4, h) | _, _ => none)] 1 k_La_takers 400) :=
  (x_bif (x_ite rfl (x_bI fun v2 h1 => (x_ite rfl (x_bif (x_ite (x_bI fun v4 h3 => rfl) (x_bI fun v6 h5 => (x_ite rfl (x_bI fun v8 h7 => rfl)))))))))
def k_Mo_sizeOf : List Ent := [(0, .iconst 0, 1, [], .int (0)), (1, .istore_n 1, 1, [], .null), (2, .iconst 0, 1, [], .int (0)), (3, .istore_n 2, 1, [], .null), (4, .iload_n 2, 1, [], .null), (5, .bipush (10), 2, [], .int (10)), (7, .if_icmp .ge (17), 3, [24], .null), (10, .iload_n 1, 1, [], .null), (11, .iload_n 0, 1, [], .null), (12, .iload_n 2, 1, [], .null), (13, .ishr, 1, [], .null), (14, .iconst 1, 1, [], .int (1)), (15, .iand, 1, [], .null), (16, .iadd, 1, [], .null), (17, .istore_n 1, 1, [], .null), (18, .iinc 2 (1), 3, [], .int (1)), (21, .goto (-17), 3, [4], .null), (24, .iload_n 1, 1, [], .null), (25, .ireturn, 1, [], .null)]
def Mo_sizeOf_4  (x0 : Int32) (h : Hp) : (Int32 × Int32) → ((Int32 × Int32) → Res Hp) → Res Hp := fun s κ4 => match s with
  | (x1, x2) =>
  if (10 : Int32) ≤ x2 then
  (retI x1 h)
  else
  (κ4 ((x1 + ((x0 >>> (x2 &&& 31)) &&& (1 : Int32))), (x2 + (1 : Int32))))
def F_Mo_sizeOf (x0 : Int32) (h : Hp) : Res Hp :=
  loopC (Mo_sizeOf_4  x0 h) FU ((0 : Int32), (0 : Int32))
def sF_Mo_sizeOf : List Value → Hp → Res Hp := fun as h => match as with | [.int x0] => F_Mo_sizeOf x0 h | _ => none
def S_Mo_sizeOf : Sem Hp := []
set_option maxRecDepth 100000 in
theorem e_Mo_sizeOf_0 (x0 : Int32) (h : Hp) : F_Mo_sizeOf x0 h = exec1 OI S_Mo_sizeOf 1 k_Mo_sizeOf 0 [some (.int x0), none, none] [] h (runF OI S_Mo_sizeOf [(4, [0, 1, 2], fun vs st h => match vs, st with | [.int x0, .int x1, .int x2], [] => loopC (Mo_sizeOf_4  x0 h) FU (x1, x2) | _, _ => none)] 1 k_Mo_sizeOf 400) :=
  rfl
set_option maxRecDepth 100000 in
theorem e_Mo_sizeOf_4 (κ4 : (Int32 × Int32) → Res Hp) (x0 : Int32) (x1 : Int32) (x2 : Int32)  (h : Hp) : Mo_sizeOf_4  x0 h (x1, x2) κ4 = exec1 OI S_Mo_sizeOf 1 k_Mo_sizeOf 4 [some (.int x0), some (.int x1), some (.int x2)] [] h (runF OI S_Mo_sizeOf [(4, [0, 1, 2], fun vs st h => match vs, st with | [.int x0, .int x1, .int x2], [] => κ4 (x1, x2) | _, _ => none)] 1 k_Mo_sizeOf 400) :=
  (x_ite rfl rfl)
def k_Mo_metBy : List Ent := [(0, .iconst 0, 1, [], .int (0)), (1, .istore_n 3, 1, [], .null), (2, .iconst 0, 1, [], .int (0)), (3, .istore 4, 2, [], .null), (5, .iload 4, 2, [], .null), (7, .aload_n 0, 1, [], .null), (8, .getfield 134, 3, [7, 11, 0], .null), (11, .if_icmp .ge (116), 3, [127], .null), (14, .iload_n 2, 1, [], .null), (15, .bipush (-9), 2, [], .int (-9)), (17, .if_icmp .eq (21), 3, [38], .null), (20, .aload_n 0, 1, [], .null), (21, .getfield 34, 3, [7, 12, 1], .null), (24, .iconst 3, 1, [], .int (3)), (25, .iload 4, 2, [], .null), (27, .imul, 1, [], .null), (28, .iconst 2, 1, [], .int (2)), (29, .iadd, 1, [], .null), (30, .iaload, 1, [], .null), (31, .iload_n 2, 1, [], .null), (32, .bipush (8), 2, [], .int (8)), (34, .irem, 1, [], .null), (35, .if_icmp .ne (7), 3, [42], .null), (38, .iconst 1, 1, [], .int (1)), (39, .goto (4), 3, [43], .null), (42, .iconst 0, 1, [], .int (0)), (43, .istore 5, 2, [], .null), (45, .iload_n 3, 1, [], .null), (46, .iload 5, 2, [], .null), (48, .ifCond .eq (32), 3, [80], .null), (51, .aload_n 0, 1, [], .null), (52, .getfield 34, 3, [7, 12, 1], .null), (55, .iconst 3, 1, [], .int (3)), (56, .iload 4, 2, [], .null), (58, .imul, 1, [], .null), (59, .iaload, 1, [], .null), (60, .iload_n 1, 1, [], .null), (61, .if_icmp .ne (19), 3, [80], .null), (64, .iconst 1, 1, [], .int (1)), (65, .aload_n 0, 1, [], .null), (66, .getfield 34, 3, [7, 12, 1], .null), (69, .iconst 3, 1, [], .int (3)), (70, .iload 4, 2, [], .null), (72, .imul, 1, [], .null), (73, .iconst 1, 1, [], .int (1)), (74, .iadd, 1, [], .null), (75, .iaload, 1, [], .null), (76, .ishl, 1, [], .null), (77, .goto (4), 3, [81], .null), (80, .iconst 0, 1, [], .int (0)), (81, .ior, 1, [], .null), (82, .istore_n 3, 1, [], .null), (83, .iload_n 3, 1, [], .null), (84, .iload 5, 2, [], .null), (86, .ifCond .eq (32), 3, [118], .null), (89, .aload_n 0, 1, [], .null), (90, .getfield 34, 3, [7, 12, 1], .null), (93, .iconst 3, 1, [], .int (3)), (94, .iload 4, 2, [], .null), (96, .imul, 1, [], .null), (97, .iconst 1, 1, [], .int (1)), (98, .iadd, 1, [], .null), (99, .iaload, 1, [], .null), (100, .iload_n 1, 1, [], .null), (101, .if_icmp .ne (17), 3, [118], .null), (104, .iconst 1, 1, [], .int (1)), (105, .aload_n 0, 1, [], .null), (106, .getfield 34, 3, [7, 12, 1], .null), (109, .iconst 3, 1, [], .int (3)), (110, .iload 4, 2, [], .null), (112, .imul, 1, [], .null), (113, .iaload, 1, [], .null), (114, .ishl, 1, [], .null), (115, .goto (4), 3, [119], .null), (118, .iconst 0, 1, [], .int (0)), (119, .ior, 1, [], .null), (120, .istore_n 3, 1, [], .null), (121, .iinc 4 (1), 3, [], .int (1)), (124, .goto (-119), 3, [5], .null), (127, .iload_n 3, 1, [], .null), (128, .ireturn, 1, [], .null)]
def Mo_metBy_5  (x1 : Int32) (x2 : Int32) (h : Hp) : (Int32 × Int32) → ((Int32 × Int32) → Res Hp) → Res Hp := fun s κ5 => match s with
  | (x3, x4) =>
  if (hg h 178 11) ≤ x4 then
  (retI x3 h)
  else
  (if x2 = (-9 : Int32) then
  (bif okA 187 100 ((3 : Int32) * x4) then
  if (hg h 187 ((3 : Int32) * x4).toNatClampNeg) = x1 then
  (bif okA 187 100 (((3 : Int32) * x4) + (1 : Int32)) then
  bif okA 187 100 (((3 : Int32) * x4) + (1 : Int32)) then
  if (hg h 187 (((3 : Int32) * x4) + (1 : Int32)).toNatClampNeg) = x1 then
  (bif okA 187 100 ((3 : Int32) * x4) then
  κ5 (((x3 ||| ((1 : Int32) <<< ((hg h 187 (((3 : Int32) * x4) + (1 : Int32)).toNatClampNeg) &&& 31))) ||| ((1 : Int32) <<< ((hg h 187 ((3 : Int32) * x4).toNatClampNeg) &&& 31))), (x4 + (1 : Int32)))
  else none)
  else
  (κ5 (((x3 ||| ((1 : Int32) <<< ((hg h 187 (((3 : Int32) * x4) + (1 : Int32)).toNatClampNeg) &&& 31))) ||| (0 : Int32)), (x4 + (1 : Int32))))
  else none
  else none)
  else
  (bif okA 187 100 (((3 : Int32) * x4) + (1 : Int32)) then
  if (hg h 187 (((3 : Int32) * x4) + (1 : Int32)).toNatClampNeg) = x1 then
  (bif okA 187 100 ((3 : Int32) * x4) then
  κ5 (((x3 ||| (0 : Int32)) ||| ((1 : Int32) <<< ((hg h 187 ((3 : Int32) * x4).toNatClampNeg) &&& 31))), (x4 + (1 : Int32)))
  else none)
  else
  (κ5 (((x3 ||| (0 : Int32)) ||| (0 : Int32)), (x4 + (1 : Int32))))
  else none)
  else none)
  else
  (bif okA 187 100 (((3 : Int32) * x4) + (2 : Int32)) then
  if (hg h 187 (((3 : Int32) * x4) + (2 : Int32)).toNatClampNeg) = (x2 - x2 / (8 : Int32) * (8 : Int32)) then
  (bif okA 187 100 ((3 : Int32) * x4) then
  if (hg h 187 ((3 : Int32) * x4).toNatClampNeg) = x1 then
  (bif okA 187 100 (((3 : Int32) * x4) + (1 : Int32)) then
  bif okA 187 100 (((3 : Int32) * x4) + (1 : Int32)) then
  if (hg h 187 (((3 : Int32) * x4) + (1 : Int32)).toNatClampNeg) = x1 then
  (bif okA 187 100 ((3 : Int32) * x4) then
  κ5 (((x3 ||| ((1 : Int32) <<< ((hg h 187 (((3 : Int32) * x4) + (1 : Int32)).toNatClampNeg) &&& 31))) ||| ((1 : Int32) <<< ((hg h 187 ((3 : Int32) * x4).toNatClampNeg) &&& 31))), (x4 + (1 : Int32)))
  else none)
  else
  (κ5 (((x3 ||| ((1 : Int32) <<< ((hg h 187 (((3 : Int32) * x4) + (1 : Int32)).toNatClampNeg) &&& 31))) ||| (0 : Int32)), (x4 + (1 : Int32))))
  else none
  else none)
  else
  (bif okA 187 100 (((3 : Int32) * x4) + (1 : Int32)) then
  if (hg h 187 (((3 : Int32) * x4) + (1 : Int32)).toNatClampNeg) = x1 then
  (bif okA 187 100 ((3 : Int32) * x4) then
  κ5 (((x3 ||| (0 : Int32)) ||| ((1 : Int32) <<< ((hg h 187 ((3 : Int32) * x4).toNatClampNeg) &&& 31))), (x4 + (1 : Int32)))
  else none)
  else
  (κ5 (((x3 ||| (0 : Int32)) ||| (0 : Int32)), (x4 + (1 : Int32))))
  else none)
  else none)
  else
  (κ5 (((x3 ||| (0 : Int32)) ||| (0 : Int32)), (x4 + (1 : Int32))))
  else none))
def F_Mo_metBy (x1 : Int32) (x2 : Int32) (h : Hp) : Res Hp :=
  loopC (Mo_metBy_5  x1 x2 h) FU ((0 : Int32), (0 : Int32))
def sF_Mo_metBy : List Value → Hp → Res Hp := fun as h => match as with | [.ref f0, .int x1, .int x2] => bif Nat.beq f0 178 then F_Mo_metBy x1 x2 h else none | _ => none
def S_Mo_metBy : Sem Hp := []
set_option maxRecDepth 100000 in
theorem e_Mo_metBy_0 (x1 : Int32) (x2 : Int32) (h : Hp) : F_Mo_metBy x1 x2 h = exec1 OI S_Mo_metBy 1 k_Mo_metBy 0 [some (.ref 178), some (.int x1), some (.int x2), none, none, none] [] h (runF OI S_Mo_metBy [(5, [0, 1, 2, 3, 4], fun vs st h => match vs, st with | [.ref f0, .int x1, .int x2, .int x3, .int x4], [] => bif Nat.beq f0 178 then loopC (Mo_metBy_5  x1 x2 h) FU (x3, x4) else none | _, _ => none)] 1 k_Mo_metBy 400) :=
  rfl
set_option maxRecDepth 100000 in
theorem e_Mo_metBy_5 (κ5 : (Int32 × Int32) → Res Hp) (x1 : Int32) (x2 : Int32) (x3 : Int32) (x4 : Int32)  (h : Hp) : Mo_metBy_5  x1 x2 h (x3, x4) κ5 = exec1 OI S_Mo_metBy 1 k_Mo_metBy 5 [some (.ref 178), some (.int x1), some (.int x2), some (.int x3), some (.int x4), none] [] h (runF OI S_Mo_metBy [(5, [0, 1, 2, 3, 4], fun vs st h => match vs, st with | [.ref f0, .int x1, .int x2, .int x3, .int x4], [] => bif Nat.beq f0 178 then κ5 (x3, x4) else none | _, _ => none)] 1 k_Mo_metBy 400) :=
  (x_ite rfl (x_ite (x_bif (x_ite (x_bif (x_bif (x_ite (x_bif rfl) rfl))) (x_bif (x_ite (x_bif rfl) rfl)))) (x_bif (x_ite (x_bif (x_ite (x_bif (x_bif (x_ite (x_bif rfl) rfl))) (x_bif (x_ite (x_bif rfl) rfl)))) rfl))))
def k_Mo_letterOf : List Ent := [(0, .aload_n 0, 1, [], .null), (1, .getfield 37, 3, [7, 15, 1], .null), (4, .bipush (17), 2, [], .int (17)), (6, .iload_n 1, 1, [], .null), (7, .imul, 1, [], .null), (8, .iload_n 2, 1, [], .null), (9, .iadd, 1, [], .null), (10, .iaload, 1, [], .null), (11, .ireturn, 1, [], .null)]
def F_Mo_letterOf (x1 : Int32) (x2 : Int32) (h : Hp) : Res Hp :=
  bif okA 188 100 (((17 : Int32) * x1) + x2) then
  retI (hg h 188 (((17 : Int32) * x1) + x2).toNatClampNeg) h
  else none
def sF_Mo_letterOf : List Value → Hp → Res Hp := fun as h => match as with | [.ref f0, .int x1, .int x2] => bif Nat.beq f0 178 then F_Mo_letterOf x1 x2 h else none | _ => none
def S_Mo_letterOf : Sem Hp := []
set_option maxRecDepth 100000 in
theorem e_Mo_letterOf_0 (x1 : Int32) (x2 : Int32) (h : Hp) : F_Mo_letterOf x1 x2 h = exec1 OI S_Mo_letterOf 1 k_Mo_letterOf 0 [some (.ref 178), some (.int x1), some (.int x2)] [] h (runF OI S_Mo_letterOf [] 1 k_Mo_letterOf 400) :=
  (x_bif rfl)
def k_Mo_givenOn : List Ent := [(0, .iconst 0, 1, [], .int (0)), (1, .istore_n 2, 1, [], .null), (2, .iconst 0, 1, [], .int (0)), (3, .istore_n 3, 1, [], .null), (4, .iload_n 3, 1, [], .null), (5, .aload_n 0, 1, [], .null), (6, .getfield 140, 3, [7, 14, 0], .null), (9, .if_icmp .ge (52), 3, [61], .null), (12, .iconst 1, 1, [], .int (1)), (13, .istore 4, 2, [], .null), (15, .iload 4, 2, [], .null), (17, .aload_n 0, 1, [], .null), (18, .iload_n 3, 1, [], .null), (19, .iconst 2, 1, [], .int (2)), (20, .invokevirtual 153, 3, [105, 3, 1], .null), (23, .iconst 1, 1, [], .int (1)), (24, .isub, 1, [], .null), (25, .if_icmp .ge (30), 3, [55], .null), (28, .iload_n 2, 1, [], .null), (29, .aload_n 0, 1, [], .null), (30, .iload_n 3, 1, [], .null), (31, .iconst 3, 1, [], .int (3)), (32, .iload 4, 2, [], .null), (34, .iadd, 1, [], .null), (35, .invokevirtual 153, 3, [105, 3, 1], .null), (38, .iload_n 1, 1, [], .null), (39, .if_icmp .ne (7), 3, [46], .null), (42, .iconst 1, 1, [], .int (1)), (43, .goto (4), 3, [47], .null), (46, .iconst 0, 1, [], .int (0)), (47, .iadd, 1, [], .null), (48, .istore_n 2, 1, [], .null), (49, .iinc 4 (1), 3, [], .int (1)), (52, .goto (-37), 3, [15], .null), (55, .iinc 3 (1), 3, [], .int (1)), (58, .goto (-54), 3, [4], .null), (61, .iload_n 2, 1, [], .null), (62, .ireturn, 1, [], .null)]
def Mo_givenOn_15 (κ4 : (Int32 × Int32 × Hp) → Res Hp) (x1 : Int32) (x3 : Int32)  : (Int32 × Int32 × Hp) → ((Int32 × Int32 × Hp) → Res Hp) → Res Hp := fun s κ15 => match s with
  | (x2, x4, h) =>
  bI (F_Mo_letterOf x3 (2 : Int32) h) fun v2 h1 =>
  if (v2 - (1 : Int32)) ≤ x4 then
  (κ4 (x2, (x3 + (1 : Int32)), h1))
  else
  (bI (F_Mo_letterOf x3 ((3 : Int32) + x4) h1) fun v4 h3 =>
  if v4 = x1 then
  (κ15 ((x2 + (1 : Int32)), (x4 + (1 : Int32)), h3))
  else
  (κ15 ((x2 + (0 : Int32)), (x4 + (1 : Int32)), h3)))
def Mo_givenOn_4  (x1 : Int32)  : (Int32 × Int32 × Hp) → ((Int32 × Int32 × Hp) → Res Hp) → Res Hp := fun s κ4 => match s with
  | (x2, x3, h) =>
  if (hg h 178 14) ≤ x3 then
  (retI x2 h)
  else
  (loopC (Mo_givenOn_15 κ4 x1 x3 ) FU (x2, (1 : Int32), h))
def F_Mo_givenOn (x1 : Int32) (h : Hp) : Res Hp :=
  loopC (Mo_givenOn_4  x1 ) FU ((0 : Int32), (0 : Int32), h)
def sF_Mo_givenOn : List Value → Hp → Res Hp := fun as h => match as with | [.ref f0, .int x1] => bif Nat.beq f0 178 then F_Mo_givenOn x1 h else none | _ => none
def S_Mo_givenOn : Sem Hp := [(105, sF_Mo_letterOf)]
set_option maxRecDepth 100000 in
theorem e_Mo_givenOn_0 (x1 : Int32) (h : Hp) : F_Mo_givenOn x1 h = exec1 OI S_Mo_givenOn 1 k_Mo_givenOn 0 [some (.ref 178), some (.int x1), none, none, none] [] h (runF OI S_Mo_givenOn [(4, [0, 1, 2, 3], fun vs st h => match vs, st with | [.ref f0, .int x1, .int x2, .int x3], [] => bif Nat.beq f0 178 then loopC (Mo_givenOn_4  x1 ) FU (x2, x3, h) else none | _, _ => none)] 1 k_Mo_givenOn 400) :=
  rfl
set_option maxRecDepth 100000 in
theorem e_Mo_givenOn_4 (κ4 : (Int32 × Int32 × Hp) → Res Hp) (x1 : Int32) (x2 : Int32) (x3 : Int32)  (h : Hp) : Mo_givenOn_4  x1  (x2, x3, h) κ4 = exec1 OI S_Mo_givenOn 1 k_Mo_givenOn 4 [some (.ref 178), some (.int x1), some (.int x2), some (.int x3), none] [] h (runF OI S_Mo_givenOn [(15, [0, 1, 2, 3, 4], fun vs st h => match vs, st with | [.ref f0, .int x1, .int x2, .int x3, .int x4], [] => bif Nat.beq f0 178 then loopC (Mo_givenOn_15 κ4 x1 x3 ) FU (x2, x4, h) else none | _, _ => none)] 1 k_Mo_givenOn 400) :=
  (x_ite rfl rfl)
set_option maxRecDepth 100000 in
theorem e_Mo_givenOn_15 (κ4 : (Int32 × Int32 × Hp) → Res Hp) (κ15 : (Int32 × Int32 × Hp) → Res Hp) (x1 : Int32) (x2 : Int32) (x3 : Int32) (x4 : Int32)  (h : Hp) : Mo_givenOn_15 κ4 x1 x3  (x2, x4, h) κ15 = exec1 OI S_Mo_givenOn 1 k_Mo_givenOn 15 [some (.ref 178), some (.int x1), some (.int x2), some (.int x3), some (.int x4)] [] h (runF OI S_Mo_givenOn [(4, [0, 1, 2, 3], fun vs st h => match vs, st with | [.ref f0, .int x1, .int x2, .int x3], [] => bif Nat.beq f0 178 then κ4 (x2, x3, h) else none | _, _ => none), (15, [0, 1, 2, 3, 4], fun vs st h => match vs, st with | [.ref f0, .int x1, .int x2, .int x3, .int x4], [] => bif Nat.beq f0 178 then κ15 (x2, x4, h) else none | _, _ => none)] 1 k_Mo_givenOn 400) :=
  (x_bI fun v2 h1 => (x_ite rfl (x_bI fun v4 h3 => (x_ite rfl rfl))))
end
